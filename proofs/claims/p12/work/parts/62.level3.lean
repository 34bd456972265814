set_option maxRecDepth 100000 in
def f_r_enter3 (V : Nat → Nat → Int) (J : Nat → Nat → Int) (Rr : Nat → Nat → Nat) : (Int × (Nat → Nat → Int)) → Prop :=
  rdb (up2 V 72 4 4) fun V1 => rdb (V1 72 2) fun z2 => rdb (wr (z2 + 1)) fun z3 => rdb (up2 V1 72 2 z3) fun V4 => rtn (1, V4)
set_option maxHeartbeats 8000000 in
set_option maxRecDepth 100000 in
theorem r_enter3 (l : Launch) (D : va_G) (cy : Nat → ClassId) (ad : Nat → Nat) (G : Nat → Nat → Int) (V J : Nat → Nat → Int) (Rr : Nat → Nat → Nat) (hI : TI G V) (hJ : VJ J) (hR : XR Rr) (hop : V 72 4 = 3) : xMi l D (xTY cy) yX6_enter cX6_enter 1 (some .boolean) 0 0 0 0 [.ref (ad 72)] (XW cy ad V J Rr) (fun u : Nat → Nat → Int => XW cy ad u J Rr) (fun a (u : Nat → Nat → Int) => TI G u ∧ (0 ≤ a ∧ a ≤ 1) ∧ Sp a (u 72 4 = 4) ∧ FB (fun i k : Nat => (72 ≤ i ∧ i ≤ 72)) V u ∧ (f_r_enter3 V J Rr) (a, u)) := by
  refine xMi.mk (lv0 := [(0, .ref (ad 72))]) (by decide) rfl (Nat.le_of_ble_eq_true rfl) (fun p e s m below meth c A C hr hnm hAe => ?_)
  have C : xC2 p s m _ meth c D A s.heap 1 cX6_enter RX6 (xTY cy) := C
  have hB : FB (fun i k : Nat => (72 ≤ i ∧ i ≤ 72)) V V := FB.rf _ _
  have hF := Imp.of_eq (f_r_enter3.eq_def V J Rr)
  refine x_aload_n C.1 dX6_enter_0 0 rfl ?_
  refine x_getI C (N := 129) (i := 72) (by decide) rfl vc_X6 wx_X6 4 (by decide) wf_X6_29 rfl dX6_enter_1 (a := 3) hop ?_
  refine x_bipush C.1 (n := 6) dX6_enter_4 ?_
  refine x_icmp_lt_t C.1 (tgt := 15) dX6_enter_6 (by decide) (by decide) (by decide) (by decide) ?_
  refine x_aload_n C.1 dX6_enter_15 0 rfl ?_
  refine x_dup C.1 dX6_enter_16 rfl ?_
  refine x_getI C (N := 129) (i := 72) (by decide) rfl vc_X6 wx_X6 4 (by decide) wf_X6_29 rfl dX6_enter_17 (a := 3) hop ?_
  refine x_iconst C.1 (n := 1) dX6_enter_20 ?_
  refine x_iadd C.1 (v := 4) (by decide) dX6_enter_21 ?_
  refine x_putI C (N := 129) (i := 72) (by decide) rfl vc_X6 wx_X6 4 (by decide) wf_X6_29 tyX6 tyX6_ok nmX6 rfl (tyX6_ok 4 (by decide)) rfl dX6_enter_22 rfl rfl ?_
  refine x_gV ?_
  intro V1 hV1
  have hI1 : TI G V1 := hI.up hV1 rfl (by decide) rfl
  have hB1 := hB.up hV1 (⟨by decide, by decide⟩)
  replace hF := hF.to (rdb_e (z := V1) hV1.symm)
  refine x_aload_n C.1 dX6_enter_25 0 rfl ?_
  refine x_dup C.1 dX6_enter_26 rfl ?_
  obtain ⟨z2, ez2, bz2⟩ := hI1.rd 72 2 (x := -2147483648) (y := 2147483647) rfl
  replace hF := hF.to (rdb_e (z := z2) ez2)
  refine x_getI C (N := 129) (i := 72) (by decide) rfl vc_X6 wx_X6 2 (by decide) wf_X6_22 rfl dX6_enter_27 (a := z2) ez2 ?_
  refine x_iconst C.1 (n := 1) dX6_enter_30 ?_
  refine x_iadd C.1 (v := z2 + 1) (by omega) dX6_enter_31 ?_
  refine x_wrapg ?_
  intro z3 bz3 ew3
  replace hF := hF.to (rdb_e (z := z3) ew3.symm)
  refine x_putI C (N := 129) (i := 72) (by decide) rfl vc_X6 wx_X6 2 (by decide) wf_X6_22 tyX6 tyX6_ok nmX6 rfl (tyX6_ok 2 (by decide)) rfl dX6_enter_32 rfl rfl ?_
  refine x_gV ?_
  intro V4 hV4
  have hI4 : TI G V4 := hI1.up hV4 rfl (by omega) rfl
  have hB4 := hB1.up hV4 (⟨by decide, by decide⟩)
  replace hF := hF.to (rdb_e (z := V4) hV4.symm)
  refine x_iconst C.1 (n := 1) dX6_enter_35 ?_
  exact x_zret (S := (Nat → Nat → Int)) (post := (fun a (u : Nat → Nat → Int) => TI G u ∧ (0 ≤ a ∧ a ≤ 1) ∧ Sp a (u 72 4 = 4) ∧ FB (fun i k : Nat => (72 ≤ i ∧ i ≤ 72)) V u ∧ (f_r_enter3 V J Rr) (a, u))) (w1 := (fun u : Nat → Nat → Int => XW cy ad u J Rr)) (a := 1) C hr rfl dX6_enter_36 (by decide) V4 rfl ⟨hI4, ⟨by decide, by decide⟩, (Or.inr ⟨rfl, ((congrFun (congrFun hV4 72) 4).trans ((up2_n _ _ (Or.inr (by decide))).trans ((congrFun (congrFun hV1 72) 4).trans (up2_s _ _ _ _))))⟩), hB4, hF _ rfl⟩
set_option maxRecDepth 100000 in
def f_r_bracket3 (x1 : Int) (V : Nat → Nat → Int) (J : Nat → Nat → Int) (Rr : Nat → Nat → Nat) : (Int × (Nat → Nat → Int)) → Prop :=
  calVX (fun i k : Nat => (72 ≤ i ∧ i ≤ 72)) V (f_r_enter3 V J Rr) fun z1 V1 => fct (0 ≤ z1 ∧ z1 ≤ 1) <| (if ¬ z1 = 0 then (if ¬ x1 = 41 then calVX (fun i k : Nat => (72 ≤ i ∧ i ≤ 72) ∨ (Rr 72 1 ≤ i ∧ i ≤ Rr 72 1 + 4)) V1 (f_r_sum4 V1 J Rr) fun z5 V5 => fct (0 ≤ z5 ∧ z5 ≤ 1) <| (if z5 = 0 then rtn (0, V5) else calVX (fun i k : Nat => (72 ≤ i ∧ i ≤ 72)) V5 (f_r_sign x1 V5 J Rr) fun z8 V8 => fct (0 ≤ z8 ∧ z8 ≤ 1) <| (if ¬ z8 = 0 then rdb (up2 V8 72 4 3) fun V10 => rtn (1, V10) else rtn (0, V8))) else calVX (fun i k : Nat => (72 ≤ i ∧ i ≤ 72) ∨ (Rr 72 1 ≤ i ∧ i ≤ Rr 72 1 + 4)) V1 (f_r_condition4 V1 J Rr) fun z11 V11 => fct (0 ≤ z11 ∧ z11 ≤ 1) <| (if z11 = 0 then rtn (0, V11) else calVX (fun i k : Nat => (72 ≤ i ∧ i ≤ 72)) V11 (f_r_sign x1 V11 J Rr) fun z14 V14 => fct (0 ≤ z14 ∧ z14 ≤ 1) <| (if ¬ z14 = 0 then rdb (up2 V14 72 4 3) fun V16 => rtn (1, V16) else rtn (0, V14)))) else rtn (0, V1))
set_option maxHeartbeats 8000000 in
set_option maxRecDepth 100000 in
theorem r_bracket3 (l : Launch) (D : va_G) (cy : Nat → ClassId) (aK aV : Nat → Nat) (ad : Nat → Nat) (G : Nat → Nat → Int) (V J : Nat → Nat → Int) (Rr : Nat → Nat → Nat) (hI : TI G V) (hJ : VJ J) (hR : XR Rr) (x1 : Int) (bx1 : 0 ≤ x1 ∧ x1 ≤ 65535) (hop : V 72 4 = 3) : zMiS l D (xTY cy) aK aV yX6_bracket cX6_bracket 3 (some .boolean) 27 585 0 0 [.ref (ad 72), vI x1] (XW cy ad V J Rr) (fun u : Nat → Nat → Int => XW cy ad u J Rr) (fun a (u : Nat → Nat → Int) => TI G u ∧ (0 ≤ a ∧ a ≤ 1) ∧ Sp a (u 72 4 = 3) ∧ FB (fun i k : Nat => (72 ≤ i ∧ i ≤ 72) ∨ (Rr 72 1 ≤ i ∧ i ≤ Rr 72 1 + 4)) V u ∧ (f_r_bracket3 x1 V J Rr) (a, u)) := by
  refine zMiS.mk (lv0 := [(0, .ref (ad 72)), (1, vI x1)]) (by decide) rfl (Nat.le_of_ble_eq_true rfl) (fun p e s m below meth c A C hr hnm hAe hE => ?_)
  have C : xC2 p s m _ meth c D A s.heap 3 cX6_bracket RX6 (xTY cy) := C
  have hB : FB (fun i k : Nat => (72 ≤ i ∧ i ≤ 72) ∨ (Rr 72 1 ≤ i ∧ i ≤ Rr 72 1 + 4)) V V := FB.rf _ _
  have hF := Imp.of_eq (f_r_bracket3.eq_def x1 V J Rr)
  refine x_aload_n C.1 dX6_bracket_0 0 rfl ?_
  refine x_callVi C (As := []) (rest := []) 72 (xw_at (N := 129) (i := 72) (by decide) rfl) vc_X6 (r_enter3 l D cy ad G V J Rr hI hJ hR hop) (l1 := []) (l2 := []) (List.append_nil _).symm (w2 := fun u : Nat → Nat → Int => XW cy ad u J Rr) (fun _ => List.append_nil _) rfl wm_yX6_enter wn_X6 wl_X6_83 wi_yX6_enter we_yX6_enter hd_yX6_enter rfl ⟨Nat.le_of_ble_eq_true rfl, Nat.le_of_ble_eq_true rfl⟩ (Nat.le_of_ble_eq_true rfl) ⟨Nat.le_of_ble_eq_true rfl, Nat.le_of_ble_eq_true rfl⟩ dX6_bracket_1 (fun z1 V1 bz1 h1 => ?_)
  obtain ⟨hI1, bq1, hx1_0, hBc1, hFc1⟩ := h1
  replace hF := calVX_i hF hFc1 hBc1
  replace hF := hF.fc bq1
  have hB1 := hB.tr hBc1 (fun i k h => (Or.inl h))
  refine x_if_ne C.1 (tgt := 9) dX6_bracket_4 (by decide) (by omega) (fun hc2 => ?_) (fun hc2 => ?_)
  · replace hF := hF.to (if_pos hc2)
    have hon3 := Sp.on hx1_0 (by omega)
    refine x_iload_n C.1 dX6_bracket_9 1 rfl ?_
    refine x_bipush C.1 (n := 41) dX6_bracket_10 ?_
    refine x_icmp_ne C.1 (tgt := 22) dX6_bracket_12 (by decide) (by omega) (by decide) (fun hc4 => ?_) (fun hc4 => ?_)
    · replace hF := hF.to (if_pos hc4)
      refine x_aload_n C.1 dX6_bracket_22 0 rfl ?_
      refine x_callViS C hE (As := []) (rest := []) 72 (xw_at (N := 129) (i := 72) (by decide) rfl) vc_X6 (r_sum4 l D cy aK aV ad G V1 J Rr hI1 hJ hR hon3) (l1 := []) (l2 := []) (List.append_nil _).symm (w2 := fun u : Nat → Nat → Int => XW cy ad u J Rr) (fun _ => List.append_nil _) rfl wm_yX6_sum wn_X6 wl_X6_71 wi_yX6_sum we_yX6_sum hd_yX6_sum rfl ⟨Nat.le_of_ble_eq_true rfl, Nat.le_of_ble_eq_true rfl⟩ (Nat.le_of_ble_eq_true rfl) ⟨Nat.le_of_ble_eq_true rfl, Nat.le_of_ble_eq_true rfl⟩ dX6_bracket_23 (fun z5 V5 bz5 h5 => ?_)
      obtain ⟨hI5, bq5, hx5_0, hBc5, hFc5⟩ := h5
      replace hF := calVX_i hF hFc5 hBc5
      replace hF := hF.fc bq5
      have hB5 := hB1.tr hBc5 (fun i k h => (h.elim (fun h => (Or.inl h)) (fun h => (Or.inr (h)))))
      refine x_istore_n C.1 (lv' := [(2, vI z5), (0, .ref (ad 72)), (1, vI x1)]) dX6_bracket_26 (by decide) rfl ?_
      refine x_iload_n C.1 dX6_bracket_27 0 rfl ?_
      refine x_if_eq C.1 (tgt := 39) dX6_bracket_28 (by decide) (by omega) (fun hc6 => ?_) (fun hc6 => ?_)
      · replace hF := hF.to (if_pos hc6)
        refine x_iconst C.1 (n := 0) dX6_bracket_39 ?_
        exact x_zret (S := (Nat → Nat → Int)) (post := (fun a (u : Nat → Nat → Int) => TI G u ∧ (0 ≤ a ∧ a ≤ 1) ∧ Sp a (u 72 4 = 3) ∧ FB (fun i k : Nat => (72 ≤ i ∧ i ≤ 72) ∨ (Rr 72 1 ≤ i ∧ i ≤ Rr 72 1 + 4)) V u ∧ (f_r_bracket3 x1 V J Rr) (a, u))) (w1 := (fun u : Nat → Nat → Int => XW cy ad u J Rr)) (a := 0) C hr rfl dX6_bracket_40 (by decide) V5 rfl ⟨hI5, ⟨by decide, by decide⟩, (Or.inl rfl), hB5, hF _ rfl⟩
      · replace hF := hF.to (if_neg hc6)
        have hon7 := Sp.on hx5_0 (by omega)
        refine x_aload_n C.1 dX6_bracket_31 1 rfl ?_
        refine x_iload_n C.1 dX6_bracket_32 2 rfl ?_
        refine x_callVi C (As := [vI x1]) (rest := []) 72 (xw_at (N := 129) (i := 72) (by decide) rfl) vc_X6 (r_sign l D cy ad G V5 J Rr hI5 hJ hR x1 ⟨by omega, by omega⟩) (l1 := []) (l2 := []) (List.append_nil _).symm (w2 := fun u : Nat → Nat → Int => XW cy ad u J Rr) (fun _ => List.append_nil _) rfl wm_yX6_sign wn_X6 wl_X6_45 wi_yX6_sign we_yX6_sign hd_yX6_sign rfl ⟨Nat.le_of_ble_eq_true rfl, Nat.le_of_ble_eq_true rfl⟩ (Nat.le_of_ble_eq_true rfl) ⟨Nat.le_of_ble_eq_true rfl, Nat.le_of_ble_eq_true rfl⟩ dX6_bracket_33 (fun z8 V8 bz8 h8 => ?_)
        obtain ⟨hI8, bq8, hx8_0, hBc8, hFc8⟩ := h8
        replace hF := calVX_i hF hFc8 hBc8
        replace hF := hF.fc bq8
        have hB8 := hB5.tr hBc8 (fun i k h => (Or.inl h))
        refine x_if_ne C.1 (tgt := 41) dX6_bracket_36 (by decide) (by omega) (fun hc9 => ?_) (fun hc9 => ?_)
        · replace hF := hF.to (if_pos hc9)
          refine x_aload_n C.1 dX6_bracket_41 1 rfl ?_
          refine x_dup C.1 dX6_bracket_42 rfl ?_
          refine x_getI C (N := 129) (i := 72) (by decide) rfl vc_X6 wx_X6 4 (by decide) wf_X6_29 rfl dX6_bracket_43 (a := 4) (hx8_0.trans hon7) ?_
          refine x_iconst C.1 (n := 1) dX6_bracket_46 ?_
          refine x_isub C.1 (v := 3) (by decide) dX6_bracket_47 ?_
          refine x_putI C (N := 129) (i := 72) (by decide) rfl vc_X6 wx_X6 4 (by decide) wf_X6_29 tyX6 tyX6_ok nmX6 rfl (tyX6_ok 4 (by decide)) rfl dX6_bracket_48 rfl rfl ?_
          refine x_gV ?_
          intro V10 hV10
          have hI10 : TI G V10 := hI8.up hV10 rfl (by decide) rfl
          have hB10 := hB8.up hV10 (Or.inl (⟨by decide, by decide⟩))
          replace hF := hF.to (rdb_e (z := V10) hV10.symm)
          refine x_iconst C.1 (n := 1) dX6_bracket_51 ?_
          exact x_zret (S := (Nat → Nat → Int)) (post := (fun a (u : Nat → Nat → Int) => TI G u ∧ (0 ≤ a ∧ a ≤ 1) ∧ Sp a (u 72 4 = 3) ∧ FB (fun i k : Nat => (72 ≤ i ∧ i ≤ 72) ∨ (Rr 72 1 ≤ i ∧ i ≤ Rr 72 1 + 4)) V u ∧ (f_r_bracket3 x1 V J Rr) (a, u))) (w1 := (fun u : Nat → Nat → Int => XW cy ad u J Rr)) (a := 1) C hr rfl dX6_bracket_52 (by decide) V10 rfl ⟨hI10, ⟨by decide, by decide⟩, (Or.inr ⟨rfl, ((congrFun (congrFun hV10 72) 4).trans (up2_s _ _ _ _))⟩), hB10, hF _ rfl⟩
        · replace hF := hF.to (if_neg (fun hh => hh hc9))
          refine x_iconst C.1 (n := 0) dX6_bracket_39 ?_
          exact x_zret (S := (Nat → Nat → Int)) (post := (fun a (u : Nat → Nat → Int) => TI G u ∧ (0 ≤ a ∧ a ≤ 1) ∧ Sp a (u 72 4 = 3) ∧ FB (fun i k : Nat => (72 ≤ i ∧ i ≤ 72) ∨ (Rr 72 1 ≤ i ∧ i ≤ Rr 72 1 + 4)) V u ∧ (f_r_bracket3 x1 V J Rr) (a, u))) (w1 := (fun u : Nat → Nat → Int => XW cy ad u J Rr)) (a := 0) C hr rfl dX6_bracket_40 (by decide) V8 rfl ⟨hI8, ⟨by decide, by decide⟩, (Or.inl rfl), hB8, hF _ rfl⟩
    · replace hF := hF.to (if_neg (fun hh => hh hc4))
      refine x_aload_n C.1 dX6_bracket_15 0 rfl ?_
      refine x_callViS C hE (As := []) (rest := []) 72 (xw_at (N := 129) (i := 72) (by decide) rfl) vc_X6 (r_condition4 l D cy aK aV ad G V1 J Rr hI1 hJ hR hon3) (l1 := []) (l2 := []) (List.append_nil _).symm (w2 := fun u : Nat → Nat → Int => XW cy ad u J Rr) (fun _ => List.append_nil _) rfl wm_yX6_condition wn_X6 wl_X6_86 wi_yX6_condition we_yX6_condition hd_yX6_condition rfl ⟨Nat.le_of_ble_eq_true rfl, Nat.le_of_ble_eq_true rfl⟩ (Nat.le_of_ble_eq_true rfl) ⟨Nat.le_of_ble_eq_true rfl, Nat.le_of_ble_eq_true rfl⟩ dX6_bracket_16 (fun z11 V11 bz11 h11 => ?_)
      obtain ⟨hI11, bq11, hx11_0, hBc11, hFc11⟩ := h11
      replace hF := calVX_i hF hFc11 hBc11
      replace hF := hF.fc bq11
      have hB11 := hB1.tr hBc11 (fun i k h => (h.elim (fun h => (Or.inl h)) (fun h => (Or.inr (h)))))
      refine x_goto C.1 (tgt := 26) dX6_bracket_19 (by decide) ?_
      refine x_istore_n C.1 (lv' := [(2, vI z11), (0, .ref (ad 72)), (1, vI x1)]) dX6_bracket_26 (by decide) rfl ?_
      refine x_iload_n C.1 dX6_bracket_27 0 rfl ?_
      refine x_if_eq C.1 (tgt := 39) dX6_bracket_28 (by decide) (by omega) (fun hc12 => ?_) (fun hc12 => ?_)
      · replace hF := hF.to (if_pos hc12)
        refine x_iconst C.1 (n := 0) dX6_bracket_39 ?_
        exact x_zret (S := (Nat → Nat → Int)) (post := (fun a (u : Nat → Nat → Int) => TI G u ∧ (0 ≤ a ∧ a ≤ 1) ∧ Sp a (u 72 4 = 3) ∧ FB (fun i k : Nat => (72 ≤ i ∧ i ≤ 72) ∨ (Rr 72 1 ≤ i ∧ i ≤ Rr 72 1 + 4)) V u ∧ (f_r_bracket3 x1 V J Rr) (a, u))) (w1 := (fun u : Nat → Nat → Int => XW cy ad u J Rr)) (a := 0) C hr rfl dX6_bracket_40 (by decide) V11 rfl ⟨hI11, ⟨by decide, by decide⟩, (Or.inl rfl), hB11, hF _ rfl⟩
      · replace hF := hF.to (if_neg hc12)
        have hon13 := Sp.on hx11_0 (by omega)
        refine x_aload_n C.1 dX6_bracket_31 1 rfl ?_
        refine x_iload_n C.1 dX6_bracket_32 2 rfl ?_
        refine x_callVi C (As := [vI x1]) (rest := []) 72 (xw_at (N := 129) (i := 72) (by decide) rfl) vc_X6 (r_sign l D cy ad G V11 J Rr hI11 hJ hR x1 ⟨by omega, by omega⟩) (l1 := []) (l2 := []) (List.append_nil _).symm (w2 := fun u : Nat → Nat → Int => XW cy ad u J Rr) (fun _ => List.append_nil _) rfl wm_yX6_sign wn_X6 wl_X6_45 wi_yX6_sign we_yX6_sign hd_yX6_sign rfl ⟨Nat.le_of_ble_eq_true rfl, Nat.le_of_ble_eq_true rfl⟩ (Nat.le_of_ble_eq_true rfl) ⟨Nat.le_of_ble_eq_true rfl, Nat.le_of_ble_eq_true rfl⟩ dX6_bracket_33 (fun z14 V14 bz14 h14 => ?_)
        obtain ⟨hI14, bq14, hx14_0, hBc14, hFc14⟩ := h14
        replace hF := calVX_i hF hFc14 hBc14
        replace hF := hF.fc bq14
        have hB14 := hB11.tr hBc14 (fun i k h => (Or.inl h))
        refine x_if_ne C.1 (tgt := 41) dX6_bracket_36 (by decide) (by omega) (fun hc15 => ?_) (fun hc15 => ?_)
        · replace hF := hF.to (if_pos hc15)
          refine x_aload_n C.1 dX6_bracket_41 1 rfl ?_
          refine x_dup C.1 dX6_bracket_42 rfl ?_
          refine x_getI C (N := 129) (i := 72) (by decide) rfl vc_X6 wx_X6 4 (by decide) wf_X6_29 rfl dX6_bracket_43 (a := 4) (hx14_0.trans hon13) ?_
          refine x_iconst C.1 (n := 1) dX6_bracket_46 ?_
          refine x_isub C.1 (v := 3) (by decide) dX6_bracket_47 ?_
          refine x_putI C (N := 129) (i := 72) (by decide) rfl vc_X6 wx_X6 4 (by decide) wf_X6_29 tyX6 tyX6_ok nmX6 rfl (tyX6_ok 4 (by decide)) rfl dX6_bracket_48 rfl rfl ?_
          refine x_gV ?_
          intro V16 hV16
          have hI16 : TI G V16 := hI14.up hV16 rfl (by decide) rfl
          have hB16 := hB14.up hV16 (Or.inl (⟨by decide, by decide⟩))
          replace hF := hF.to (rdb_e (z := V16) hV16.symm)
          refine x_iconst C.1 (n := 1) dX6_bracket_51 ?_
          exact x_zret (S := (Nat → Nat → Int)) (post := (fun a (u : Nat → Nat → Int) => TI G u ∧ (0 ≤ a ∧ a ≤ 1) ∧ Sp a (u 72 4 = 3) ∧ FB (fun i k : Nat => (72 ≤ i ∧ i ≤ 72) ∨ (Rr 72 1 ≤ i ∧ i ≤ Rr 72 1 + 4)) V u ∧ (f_r_bracket3 x1 V J Rr) (a, u))) (w1 := (fun u : Nat → Nat → Int => XW cy ad u J Rr)) (a := 1) C hr rfl dX6_bracket_52 (by decide) V16 rfl ⟨hI16, ⟨by decide, by decide⟩, (Or.inr ⟨rfl, ((congrFun (congrFun hV16 72) 4).trans (up2_s _ _ _ _))⟩), hB16, hF _ rfl⟩
        · replace hF := hF.to (if_neg (fun hh => hh hc15))
          refine x_iconst C.1 (n := 0) dX6_bracket_39 ?_
          exact x_zret (S := (Nat → Nat → Int)) (post := (fun a (u : Nat → Nat → Int) => TI G u ∧ (0 ≤ a ∧ a ≤ 1) ∧ Sp a (u 72 4 = 3) ∧ FB (fun i k : Nat => (72 ≤ i ∧ i ≤ 72) ∨ (Rr 72 1 ≤ i ∧ i ≤ Rr 72 1 + 4)) V u ∧ (f_r_bracket3 x1 V J Rr) (a, u))) (w1 := (fun u : Nat → Nat → Int => XW cy ad u J Rr)) (a := 0) C hr rfl dX6_bracket_40 (by decide) V14 rfl ⟨hI14, ⟨by decide, by decide⟩, (Or.inl rfl), hB14, hF _ rfl⟩
  · replace hF := hF.to (if_neg (fun hh => hh hc2))
    refine x_iconst C.1 (n := 0) dX6_bracket_7 ?_
    exact x_zret (S := (Nat → Nat → Int)) (post := (fun a (u : Nat → Nat → Int) => TI G u ∧ (0 ≤ a ∧ a ≤ 1) ∧ Sp a (u 72 4 = 3) ∧ FB (fun i k : Nat => (72 ≤ i ∧ i ≤ 72) ∨ (Rr 72 1 ≤ i ∧ i ≤ Rr 72 1 + 4)) V u ∧ (f_r_bracket3 x1 V J Rr) (a, u))) (w1 := (fun u : Nat → Nat → Int => XW cy ad u J Rr)) (a := 0) C hr rfl dX6_bracket_8 (by decide) V1 rfl ⟨hI1, ⟨by decide, by decide⟩, (Or.inl rfl), hB1, hF _ rfl⟩
set_option maxRecDepth 100000 in
def f_r_factor3 (V : Nat → Nat → Int) (J : Nat → Nat → Int) (Rr : Nat → Nat → Nat) : (Int × (Nat → Nat → Int)) → Prop :=
  calR (f_r_peek V J Rr) fun z1 => (if ¬ z1 = 91 then calR (f_r_isDigit z1) fun z3 => fct (0 ≤ z3 ∧ z3 ≤ 1) <| (if z3 = 0 then (if z1 < 0 then calVX (fun i k : Nat => (72 ≤ i ∧ i ≤ 72)) V (f_r_fail 1 V J Rr) fun z6 V6 => fct (0 ≤ z6 ∧ z6 ≤ 0) <| rtn (z6, V6) else rdb (iC z1) fun z7 => fct (0 ≤ z7 ∧ z7 ≤ 65535) <| calR (f_j_indexOf 1 z7) fun z8 => (if 0 ≤ z8 then rdb (Rr 72 1) fun t10 => calUX (fun i k : Nat => (t10 ≤ i ∧ i ≤ t10 + 4)) V (f_r_put t10 1 (z1 - 97) V J Rr) fun V11 => rdb (V11 72 2) fun z12 => rdb (wr (z12 + 1)) fun z13 => rdb (up2 V11 72 2 z13) fun V14 => rtn (1, V14) else calVX (fun i k : Nat => (72 ≤ i ∧ i ≤ 72)) V (f_r_fail 1 V J Rr) fun z15 V15 => fct (0 ≤ z15 ∧ z15 ≤ 0) <| rtn (z15, V15))) else calVX (fun i k : Nat => (72 ≤ i ∧ i ≤ 72) ∨ (Rr 72 1 ≤ i ∧ i ≤ Rr 72 1 + 4)) V (f_r_number V J Rr) fun z16 V16 => fct (0 ≤ z16 ∧ z16 ≤ 1) <| rtn (z16, V16)) else calVX (fun i k : Nat => (72 ≤ i ∧ i ≤ 72) ∨ (Rr 72 1 ≤ i ∧ i ≤ Rr 72 1 + 4)) V (f_r_bracket3 93 V J Rr) fun z17 V17 => fct (0 ≤ z17 ∧ z17 ≤ 1) <| rtn (z17, V17))
set_option maxHeartbeats 8000000 in
set_option maxRecDepth 100000 in
theorem r_factor3 (l : Launch) (D : va_G) (cy : Nat → ClassId) (aK aV : Nat → Nat) (ad : Nat → Nat) (G : Nat → Nat → Int) (V J : Nat → Nat → Int) (Rr : Nat → Nat → Nat) (hI : TI G V) (hJ : VJ J) (hR : XR Rr) (hop : V 72 4 = 3) : zMiS l D (xTY cy) aK aV yX6_factor cX6_factor 2 (some .boolean) 28 607 0 0 [.ref (ad 72)] (XW cy ad V J Rr) (fun u : Nat → Nat → Int => XW cy ad u J Rr) (fun a (u : Nat → Nat → Int) => TI G u ∧ (0 ≤ a ∧ a ≤ 1) ∧ Sp a (u 72 4 = 3) ∧ FB (fun i k : Nat => (72 ≤ i ∧ i ≤ 72) ∨ (Rr 72 1 ≤ i ∧ i ≤ Rr 72 1 + 4)) V u ∧ (f_r_factor3 V J Rr) (a, u)) := by
  refine zMiS.mk (lv0 := [(0, .ref (ad 72))]) (by decide) rfl (Nat.le_of_ble_eq_true rfl) (fun p e s m below meth c A C hr hnm hAe hE => ?_)
  have C : xC2 p s m _ meth c D A s.heap 2 cX6_factor RX6 (xTY cy) := C
  have hB : FB (fun i k : Nat => (72 ≤ i ∧ i ≤ 72) ∨ (Rr 72 1 ≤ i ∧ i ≤ Rr 72 1 + 4)) V V := FB.rf _ _
  have hF := Imp.of_eq (f_r_factor3.eq_def V J Rr)
  refine x_aload_n C.1 dX6_factor_0 0 rfl ?_
  refine x_callVi C (As := []) (rest := []) 72 (xw_at (N := 129) (i := 72) (by decide) rfl) vc_X6 (r_peek l D cy ad G V J Rr hI hJ hR ) (l1 := []) (l2 := []) (List.append_nil _).symm (w2 := fun _ => XW cy ad V J Rr) (fun _ => List.append_nil _) rfl wm_yX6_peek wn_X6 wl_X6_54 wi_yX6_peek we_yX6_peek hd_yX6_peek rfl ⟨Nat.le_of_ble_eq_true rfl, Nat.le_of_ble_eq_true rfl⟩ (Nat.le_of_ble_eq_true rfl) ⟨Nat.le_of_ble_eq_true rfl, Nat.le_of_ble_eq_true rfl⟩ dX6_factor_1 (fun z1 u1 bz1 h1 => ?_)
  have hFc1 := h1
  replace hF := calR_i hF hFc1
  refine x_istore_n C.1 (lv' := [(1, vI z1), (0, .ref (ad 72))]) dX6_factor_4 (by decide) rfl ?_
  refine x_iload_n C.1 dX6_factor_5 0 rfl ?_
  refine x_bipush C.1 (n := 91) dX6_factor_6 ?_
  refine x_icmp_ne C.1 (tgt := 18) dX6_factor_8 (by decide) (by omega) (by decide) (fun hc2 => ?_) (fun hc2 => ?_)
  · replace hF := hF.to (if_pos hc2)
    refine x_iload_n C.1 dX6_factor_18 0 rfl ?_
    refine x_callSi C (As := [vI z1]) (rest := []) (r_isDigit l D cy z1 ⟨by omega, by omega⟩) (l1 := []) (l2 := _) rfl (w2 := fun _ => _) (fun _ => rfl) rfl wm_yX6_isDigit wn_X6 wl_X6_119 wi_yX6_isDigit hd_yX6_isDigit rfl ⟨Nat.le_of_ble_eq_true rfl, Nat.le_of_ble_eq_true rfl⟩ (Nat.le_of_ble_eq_true rfl) ⟨Nat.le_of_ble_eq_true rfl, Nat.le_of_ble_eq_true rfl⟩ dX6_factor_19 (fun z3 u3 bz3 h3 => ?_)
    obtain ⟨bq3, hFc3⟩ := h3
    replace hF := calR_i hF hFc3
    replace hF := hF.fc bq3
    refine x_if_eq C.1 (tgt := 30) dX6_factor_22 (by decide) (by omega) (fun hc4 => ?_) (fun hc4 => ?_)
    · replace hF := hF.to (if_pos hc4)
      refine x_iload_n C.1 dX6_factor_30 0 rfl ?_
      refine x_if_lt C.1 (tgt := 44) dX6_factor_31 (by decide) (by omega) (fun hc5 => ?_) (fun hc5 => ?_)
      · replace hF := hF.to (if_pos hc5)
        refine x_aload_n C.1 dX6_factor_44 1 rfl ?_
        refine x_iconst C.1 (n := 1) dX6_factor_45 ?_
        refine x_callVi C (As := [vI 1]) (rest := []) 72 (xw_at (N := 129) (i := 72) (by decide) rfl) vc_X6 (r_fail l D cy ad G V J Rr hI hJ hR 1 ⟨by decide, by decide⟩) (l1 := []) (l2 := []) (List.append_nil _).symm (w2 := fun u : Nat → Nat → Int => XW cy ad u J Rr) (fun _ => List.append_nil _) rfl wm_yX6_fail wn_X6 wl_X6_58 wi_yX6_fail we_yX6_fail hd_yX6_fail rfl ⟨Nat.le_of_ble_eq_true rfl, Nat.le_of_ble_eq_true rfl⟩ (Nat.le_of_ble_eq_true rfl) ⟨Nat.le_of_ble_eq_true rfl, Nat.le_of_ble_eq_true rfl⟩ dX6_factor_46 (fun z6 V6 bz6 h6 => ?_)
        obtain ⟨hI6, bq6, hx6_0, hBc6, hFc6⟩ := h6
        replace hF := calVX_i hF hFc6 hBc6
        replace hF := hF.fc bq6
        have hB6 := hB.tr hBc6 (fun i k h => (Or.inl h))
        exact x_zret (S := (Nat → Nat → Int)) (post := (fun a (u : Nat → Nat → Int) => TI G u ∧ (0 ≤ a ∧ a ≤ 1) ∧ Sp a (u 72 4 = 3) ∧ FB (fun i k : Nat => (72 ≤ i ∧ i ≤ 72) ∨ (Rr 72 1 ≤ i ∧ i ≤ Rr 72 1 + 4)) V u ∧ (f_r_factor3 V J Rr) (a, u))) (w1 := (fun u : Nat → Nat → Int => XW cy ad u J Rr)) (a := z6) C hr rfl dX6_factor_49 (by omega) V6 rfl ⟨hI6, ⟨by omega, by omega⟩, (Sp.all (hx6_0.trans hop) (by omega)), hB6, hF _ rfl⟩
      · replace hF := hF.to (if_neg hc5)
        refine x_ldcS C hE.2.2.2.1 dX6_factor_34 ?_
        refine x_iload_n C.1 dX6_factor_36 0 rfl ?_
        refine x_i2c C.1 dX6_factor_37 ?_
        obtain ⟨z7, hz7, bz7⟩ : ∃ z : Int, iC z1 = z ∧ (0 ≤ z ∧ z ≤ 65535) := ⟨_, rfl, iC_r _⟩
        rw [hz7]
        replace hF := hF.to (rdb_e (z := z7) hz7)
        replace hF := hF.fc bz7
        refine x_callJiS C hE (by decide) (As := [vI z7]) (rest := []) (j_indexOf l D cy aK aV 1 (by decide) z7 ⟨by omega, by omega⟩) (l1 := []) (l2 := _) rfl (w2 := fun _ => _) (fun _ => rfl) rfl wm_yJ0_indexOf_0f7a4 wn_J0 wl_X6_62 wi_yJ0_indexOf_0f7a4 we_yJ0_indexOf_0f7a4 hd_yJ0_indexOf_0f7a4 rfl ⟨Nat.le_of_ble_eq_true rfl, Nat.le_of_ble_eq_true rfl⟩ (Nat.le_of_ble_eq_true rfl) ⟨Nat.le_of_ble_eq_true rfl, Nat.le_of_ble_eq_true rfl⟩ dX6_factor_38 (fun z8 u8 bz8 h8 => ?_)
        have hFc8 := h8
        replace hF := calR_i hF hFc8
        refine x_if_ge C.1 (tgt := 50) dX6_factor_41 (by decide) (by omega) (fun hc9 => ?_) (fun hc9 => ?_)
        · replace hF := hF.to (if_pos hc9)
          refine x_aload_n C.1 dX6_factor_50 1 rfl ?_
          obtain ⟨t10, et10, ht10⟩ := XR.into hR
          replace hF := hF.to (rdb_e (z := t10) et10)
          refine x_getR C (N := 129) (i := 72) (by decide) rfl vc_X6 wx_X6 1 (by decide) wf_X6_12 rfl dX6_factor_51 (a := t10) et10 ?_
          refine x_iconst C.1 (n := 1) dX6_factor_54 ?_
          refine x_iload_n C.1 dX6_factor_55 0 rfl ?_
          refine x_bipush C.1 (n := 97) dX6_factor_56 ?_
          refine x_isub C.1 (v := z1 - 97) (by omega) dX6_factor_58 ?_
          refine x_callVv C (As := [vI 1, vI (z1 - 97)]) (rest := []) t10 (xw_at (N := 129) (i := t10) (by omega) (xd_T ht10)) vc_X9 (r_put l D cy ad G V J Rr hI hJ hR t10 ht10 1 ⟨by decide, by decide⟩ (z1 - 97) ⟨by omega, by omega⟩) (l1 := []) (l2 := []) (List.append_nil _).symm (w2 := fun u : Nat → Nat → Int => XW cy ad u J Rr) (fun _ => List.append_nil _) rfl wm_yX9_put wn_X9 wl_X6_106 wi_yX9_put we_yX9_put hd_yX9_put rfl ⟨Nat.le_of_ble_eq_true rfl, Nat.le_of_ble_eq_true rfl⟩ (Nat.le_of_ble_eq_true rfl) ⟨Nat.le_of_ble_eq_true rfl, Nat.le_of_ble_eq_true rfl⟩ dX6_factor_59 (fun V11 h11 => ?_)
          obtain ⟨hI11, hx11_0, hBc11, hFc11⟩ := h11
          replace hF := calUX_i hF hFc11 hBc11
          have hB11 := hB.tr hBc11 (fun i k h => (Or.inr (⟨by omega, by omega⟩)))
          refine x_aload_n C.1 dX6_factor_62 1 rfl ?_
          refine x_dup C.1 dX6_factor_63 rfl ?_
          obtain ⟨z12, ez12, bz12⟩ := hI11.rd 72 2 (x := -2147483648) (y := 2147483647) rfl
          replace hF := hF.to (rdb_e (z := z12) ez12)
          refine x_getI C (N := 129) (i := 72) (by decide) rfl vc_X6 wx_X6 2 (by decide) wf_X6_22 rfl dX6_factor_64 (a := z12) ez12 ?_
          refine x_iconst C.1 (n := 1) dX6_factor_67 ?_
          refine x_iadd C.1 (v := z12 + 1) (by omega) dX6_factor_68 ?_
          refine x_wrapg ?_
          intro z13 bz13 ew13
          replace hF := hF.to (rdb_e (z := z13) ew13.symm)
          refine x_putI C (N := 129) (i := 72) (by decide) rfl vc_X6 wx_X6 2 (by decide) wf_X6_22 tyX6 tyX6_ok nmX6 rfl (tyX6_ok 2 (by decide)) rfl dX6_factor_69 rfl rfl ?_
          refine x_gV ?_
          intro V14 hV14
          have hI14 : TI G V14 := hI11.up hV14 rfl (by omega) rfl
          have hB14 := hB11.up hV14 (Or.inl (⟨by decide, by decide⟩))
          replace hF := hF.to (rdb_e (z := V14) hV14.symm)
          refine x_iconst C.1 (n := 1) dX6_factor_72 ?_
          exact x_zret (S := (Nat → Nat → Int)) (post := (fun a (u : Nat → Nat → Int) => TI G u ∧ (0 ≤ a ∧ a ≤ 1) ∧ Sp a (u 72 4 = 3) ∧ FB (fun i k : Nat => (72 ≤ i ∧ i ≤ 72) ∨ (Rr 72 1 ≤ i ∧ i ≤ Rr 72 1 + 4)) V u ∧ (f_r_factor3 V J Rr) (a, u))) (w1 := (fun u : Nat → Nat → Int => XW cy ad u J Rr)) (a := 1) C hr rfl dX6_factor_73 (by decide) V14 rfl ⟨hI14, ⟨by decide, by decide⟩, (Or.inr ⟨rfl, ((congrFun (congrFun hV14 72) 4).trans ((up2_n _ _ (Or.inr (by decide))).trans (hx11_0.trans hop)))⟩), hB14, hF _ rfl⟩
        · replace hF := hF.to (if_neg hc9)
          refine x_aload_n C.1 dX6_factor_44 1 rfl ?_
          refine x_iconst C.1 (n := 1) dX6_factor_45 ?_
          refine x_callVi C (As := [vI 1]) (rest := []) 72 (xw_at (N := 129) (i := 72) (by decide) rfl) vc_X6 (r_fail l D cy ad G V J Rr hI hJ hR 1 ⟨by decide, by decide⟩) (l1 := []) (l2 := []) (List.append_nil _).symm (w2 := fun u : Nat → Nat → Int => XW cy ad u J Rr) (fun _ => List.append_nil _) rfl wm_yX6_fail wn_X6 wl_X6_58 wi_yX6_fail we_yX6_fail hd_yX6_fail rfl ⟨Nat.le_of_ble_eq_true rfl, Nat.le_of_ble_eq_true rfl⟩ (Nat.le_of_ble_eq_true rfl) ⟨Nat.le_of_ble_eq_true rfl, Nat.le_of_ble_eq_true rfl⟩ dX6_factor_46 (fun z15 V15 bz15 h15 => ?_)
          obtain ⟨hI15, bq15, hx15_0, hBc15, hFc15⟩ := h15
          replace hF := calVX_i hF hFc15 hBc15
          replace hF := hF.fc bq15
          have hB15 := hB.tr hBc15 (fun i k h => (Or.inl h))
          exact x_zret (S := (Nat → Nat → Int)) (post := (fun a (u : Nat → Nat → Int) => TI G u ∧ (0 ≤ a ∧ a ≤ 1) ∧ Sp a (u 72 4 = 3) ∧ FB (fun i k : Nat => (72 ≤ i ∧ i ≤ 72) ∨ (Rr 72 1 ≤ i ∧ i ≤ Rr 72 1 + 4)) V u ∧ (f_r_factor3 V J Rr) (a, u))) (w1 := (fun u : Nat → Nat → Int => XW cy ad u J Rr)) (a := z15) C hr rfl dX6_factor_49 (by omega) V15 rfl ⟨hI15, ⟨by omega, by omega⟩, (Sp.all (hx15_0.trans hop) (by omega)), hB15, hF _ rfl⟩
    · replace hF := hF.to (if_neg hc4)
      refine x_aload_n C.1 dX6_factor_25 1 rfl ?_
      refine x_callVi C (As := []) (rest := []) 72 (xw_at (N := 129) (i := 72) (by decide) rfl) vc_X6 (r_number l D cy ad G V J Rr hI hJ hR ) (l1 := []) (l2 := []) (List.append_nil _).symm (w2 := fun u : Nat → Nat → Int => XW cy ad u J Rr) (fun _ => List.append_nil _) rfl wm_yX6_number wn_X6 wl_X6_122 wi_yX6_number we_yX6_number hd_yX6_number rfl ⟨Nat.le_of_ble_eq_true rfl, Nat.le_of_ble_eq_true rfl⟩ (Nat.le_of_ble_eq_true rfl) ⟨Nat.le_of_ble_eq_true rfl, Nat.le_of_ble_eq_true rfl⟩ dX6_factor_26 (fun z16 V16 bz16 h16 => ?_)
      obtain ⟨hI16, bq16, hx16_0, hBc16, hFc16⟩ := h16
      replace hF := calVX_i hF hFc16 hBc16
      replace hF := hF.fc bq16
      have hB16 := hB.tr hBc16 (fun i k h => (h.elim (fun h => (Or.inl h)) (fun h => (Or.inr (h)))))
      exact x_zret (S := (Nat → Nat → Int)) (post := (fun a (u : Nat → Nat → Int) => TI G u ∧ (0 ≤ a ∧ a ≤ 1) ∧ Sp a (u 72 4 = 3) ∧ FB (fun i k : Nat => (72 ≤ i ∧ i ≤ 72) ∨ (Rr 72 1 ≤ i ∧ i ≤ Rr 72 1 + 4)) V u ∧ (f_r_factor3 V J Rr) (a, u))) (w1 := (fun u : Nat → Nat → Int => XW cy ad u J Rr)) (a := z16) C hr rfl dX6_factor_29 (by omega) V16 rfl ⟨hI16, ⟨by omega, by omega⟩, (Sp.all (hx16_0.trans hop) (by omega)), hB16, hF _ rfl⟩
  · replace hF := hF.to (if_neg (fun hh => hh hc2))
    refine x_aload_n C.1 dX6_factor_11 1 rfl ?_
    refine x_bipush C.1 (n := 93) dX6_factor_12 ?_
    refine x_callViS C hE (As := [vI 93]) (rest := []) 72 (xw_at (N := 129) (i := 72) (by decide) rfl) vc_X6 (r_bracket3 l D cy aK aV ad G V J Rr hI hJ hR 93 ⟨by decide, by decide⟩ hop) (l1 := []) (l2 := []) (List.append_nil _).symm (w2 := fun u : Nat → Nat → Int => XW cy ad u J Rr) (fun _ => List.append_nil _) rfl wm_yX6_bracket wn_X6 wl_X6_78 wi_yX6_bracket we_yX6_bracket hd_yX6_bracket rfl ⟨Nat.le_of_ble_eq_true rfl, Nat.le_of_ble_eq_true rfl⟩ (Nat.le_of_ble_eq_true rfl) ⟨Nat.le_of_ble_eq_true rfl, Nat.le_of_ble_eq_true rfl⟩ dX6_factor_14 (fun z17 V17 bz17 h17 => ?_)
    obtain ⟨hI17, bq17, hx17_0, hBc17, hFc17⟩ := h17
    replace hF := calVX_i hF hFc17 hBc17
    replace hF := hF.fc bq17
    have hB17 := hB.tr hBc17 (fun i k h => (h.elim (fun h => (Or.inl h)) (fun h => (Or.inr (h)))))
    exact x_zret (S := (Nat → Nat → Int)) (post := (fun a (u : Nat → Nat → Int) => TI G u ∧ (0 ≤ a ∧ a ≤ 1) ∧ Sp a (u 72 4 = 3) ∧ FB (fun i k : Nat => (72 ≤ i ∧ i ≤ 72) ∨ (Rr 72 1 ≤ i ∧ i ≤ Rr 72 1 + 4)) V u ∧ (f_r_factor3 V J Rr) (a, u))) (w1 := (fun u : Nat → Nat → Int => XW cy ad u J Rr)) (a := z17) C hr rfl dX6_factor_17 (by omega) V17 rfl ⟨hI17, ⟨by omega, by omega⟩, hx17_0, hB17, hF _ rfl⟩
set_option maxRecDepth 100000 in
def f_r_term3 (V : Nat → Nat → Int) (J : Nat → Nat → Int) (Rr : Nat → Nat → Nat) : (Int × (Nat → Nat → Int)) → Prop :=
  calVX (fun i k : Nat => (72 ≤ i ∧ i ≤ 72) ∨ (Rr 72 1 ≤ i ∧ i ≤ Rr 72 1 + 4)) V (f_r_factor3 V J Rr) fun z1 V1 => fct (0 ≤ z1 ∧ z1 ≤ 1) <| (if ¬ z1 = 0 then lop2 (202) (fun rc85 (z83 : Int) (V85 : Nat → Nat → Int) => (if 200 ≤ z83 then rtn (1, V85) else calR (f_r_peek V85 J Rr) fun z100 => calR (f_r_stepOf z100) fun z101 => fct (-1 ≤ z101 ∧ z101 ≤ 9) <| (if z101 < 4 then rtn (1, V85) else (if z101 ≤ 6 then rdb (V85 72 2) fun z104 => rdb (wr (z104 + 1)) fun z105 => rdb (up2 V85 72 2 z105) fun V106 => calVX (fun i k : Nat => (72 ≤ i ∧ i ≤ 72) ∨ (Rr 72 1 ≤ i ∧ i ≤ Rr 72 1 + 4)) V106 (f_r_factor3 V106 J Rr) fun z107 V107 => fct (0 ≤ z107 ∧ z107 ≤ 1) <| (if ¬ z107 = 0 then rdb (Rr 72 1) fun t110 => calUX (fun i k : Nat => (t110 ≤ i ∧ i ≤ t110 + 4)) V107 (f_r_put t110 z101 0 V107 J Rr) fun V111 => rc85 (z83 + 1) V111 else rtn (0, V107)) else rtn (1, V85))))) 0 V1 else rtn (0, V1))
set_option maxHeartbeats 8000000 in
set_option maxRecDepth 100000 in
theorem r_term3 (l : Launch) (D : va_G) (cy : Nat → ClassId) (aK aV : Nat → Nat) (ad : Nat → Nat) (G : Nat → Nat → Int) (V J : Nat → Nat → Int) (Rr : Nat → Nat → Nat) (hI : TI G V) (hJ : VJ J) (hR : XR Rr) (hop : V 72 4 = 3) : zMiS l D (xTY cy) aK aV yX6_term cX6_term 3 (some .boolean) 29 628 0 0 [.ref (ad 72)] (XW cy ad V J Rr) (fun u : Nat → Nat → Int => XW cy ad u J Rr) (fun a (u : Nat → Nat → Int) => TI G u ∧ (0 ≤ a ∧ a ≤ 1) ∧ Sp a (u 72 4 = 3) ∧ FB (fun i k : Nat => (72 ≤ i ∧ i ≤ 72) ∨ (Rr 72 1 ≤ i ∧ i ≤ Rr 72 1 + 4)) V u ∧ (f_r_term3 V J Rr) (a, u)) := by
  refine zMiS.mk (lv0 := [(0, .ref (ad 72))]) (by decide) rfl (Nat.le_of_ble_eq_true rfl) (fun p e s m below meth c A C hr hnm hAe hE => ?_)
  have C : xC2 p s m _ meth c D A s.heap 3 cX6_term RX6 (xTY cy) := C
  have hB : FB (fun i k : Nat => (72 ≤ i ∧ i ≤ 72) ∨ (Rr 72 1 ≤ i ∧ i ≤ Rr 72 1 + 4)) V V := FB.rf _ _
  have hF := Imp.of_eq (f_r_term3.eq_def V J Rr)
  refine x_aload_n C.1 dX6_term_0 0 rfl ?_
  refine x_callViS C hE (As := []) (rest := []) 72 (xw_at (N := 129) (i := 72) (by decide) rfl) vc_X6 (r_factor3 l D cy aK aV ad G V J Rr hI hJ hR hop) (l1 := []) (l2 := []) (List.append_nil _).symm (w2 := fun u : Nat → Nat → Int => XW cy ad u J Rr) (fun _ => List.append_nil _) rfl wm_yX6_factor wn_X6 wl_X6_116 wi_yX6_factor we_yX6_factor hd_yX6_factor rfl ⟨Nat.le_of_ble_eq_true rfl, Nat.le_of_ble_eq_true rfl⟩ (Nat.le_of_ble_eq_true rfl) ⟨Nat.le_of_ble_eq_true rfl, Nat.le_of_ble_eq_true rfl⟩ dX6_term_1 (fun z1 V1 bz1 h1 => ?_)
  obtain ⟨hI1, bq1, hx1_0, hBc1, hFc1⟩ := h1
  replace hF := calVX_i hF hFc1 hBc1
  replace hF := hF.fc bq1
  have hB1 := hB.tr hBc1 (fun i k h => (h.elim (fun h => (Or.inl h)) (fun h => (Or.inr (h)))))
  refine x_if_ne C.1 (tgt := 9) dX6_term_4 (by decide) (by omega) (fun hc2 => ?_) (fun hc2 => ?_)
  · replace hF := hF.to (if_pos hc2)
    have hon3 := Sp.on hx1_0 (by omega)
    refine x_iconst C.1 (n := 0) dX6_term_9 ?_
    refine x_istore_n C.1 (lv' := [(1, vI 0), (0, .ref (ad 72))]) dX6_term_10 (by decide) rfl ?_
    obtain ⟨bd85, hbd85, hF⟩ := lop2_ex hF
    refine x_loop (I := fun x : Int × (Nat → Nat → Int) => match x with | (z83, V85) => (0 ≤ z83 ∧ z83 ≤ 200) ∧ TI G V85 ∧ FB (fun i k : Nat => (72 ≤ i ∧ i ≤ 72) ∨ (Rr 72 1 ≤ i ∧ i ≤ Rr 72 1 + 4)) V V85 ∧ V85 72 4 = 3 ∧ (∃ nf : Nat, (201 - z83).toNat < nf ∧ Imp (lop2 nf bd85 z83 V85) (f_r_term3 V J Rr))) (μ := fun x : Int × (Nat → Nat → Int) => match x with | (z83, V85) => (201 - z83).toNat) (wsf := fun x : Int × (Nat → Nat → Int) => match x with | (z83, V85) => XW cy ad V85 J Rr) (lvf := fun x : Int × (Nat → Nat → Int) => match x with | (z83, V85) => [(1, vI z83), (0, .ref (ad 72))]) (fun x hI85x ih85 => ?_) (0, V1) ⟨⟨by decide, by decide⟩, hI1, hB1, hon3, ⟨_, (by omega), hF⟩⟩ rfl rfl
    obtain ⟨z83, V85⟩ := x
    obtain ⟨bz83, hI85, hB85, hk84_0, nf85, hn85, hF⟩ := hI85x
    try dsimp only
    obtain ⟨nf85, rfl⟩ : ∃ mm, nf85 = mm + 1 := ⟨nf85 - 1, (Nat.succ_pred_eq_of_pos (Nat.lt_of_le_of_lt (Nat.zero_le _) hn85)).symm⟩
    replace hF := hF.to (lop2_s hbd85)
    refine x_iload_n C.1 dX6_term_11 0 rfl ?_
    refine x_sipush C.1 (n := 200) dX6_term_12 ?_
    refine x_icmp_ge C.1 (tgt := 73) dX6_term_15 (by decide) (by omega) (by decide) (fun hc99 => ?_) (fun hc99 => ?_)
    · replace hF := hF.to (if_pos hc99)
      refine x_iconst C.1 (n := 1) dX6_term_73 ?_
      exact x_zret (S := (Nat → Nat → Int)) (post := (fun a (u : Nat → Nat → Int) => TI G u ∧ (0 ≤ a ∧ a ≤ 1) ∧ Sp a (u 72 4 = 3) ∧ FB (fun i k : Nat => (72 ≤ i ∧ i ≤ 72) ∨ (Rr 72 1 ≤ i ∧ i ≤ Rr 72 1 + 4)) V u ∧ (f_r_term3 V J Rr) (a, u))) (w1 := (fun u : Nat → Nat → Int => XW cy ad u J Rr)) (a := 1) C hr rfl dX6_term_74 (by decide) V85 rfl ⟨hI85, ⟨by decide, by decide⟩, (Or.inr ⟨rfl, hk84_0⟩), hB85, hF _ rfl⟩
    · replace hF := hF.to (if_neg hc99)
      refine x_aload_n C.1 dX6_term_18 1 rfl ?_
      refine x_callVi C (As := []) (rest := []) 72 (xw_at (N := 129) (i := 72) (by decide) rfl) vc_X6 (r_peek l D cy ad G V85 J Rr hI85 hJ hR ) (l1 := []) (l2 := []) (List.append_nil _).symm (w2 := fun _ => XW cy ad V85 J Rr) (fun _ => List.append_nil _) rfl wm_yX6_peek wn_X6 wl_X6_54 wi_yX6_peek we_yX6_peek hd_yX6_peek rfl ⟨Nat.le_of_ble_eq_true rfl, Nat.le_of_ble_eq_true rfl⟩ (Nat.le_of_ble_eq_true rfl) ⟨Nat.le_of_ble_eq_true rfl, Nat.le_of_ble_eq_true rfl⟩ dX6_term_19 (fun z100 u100 bz100 h100 => ?_)
      have hFc100 := h100
      replace hF := calR_i hF hFc100
      refine x_callSi C (As := [vI z100]) (rest := []) (r_stepOf l D cy z100 ⟨by omega, by omega⟩) (l1 := []) (l2 := _) rfl (w2 := fun _ => _) (fun _ => rfl) rfl wm_yX6_stepOf wn_X6 wl_X6_110 wi_yX6_stepOf hd_yX6_stepOf rfl ⟨Nat.le_of_ble_eq_true rfl, Nat.le_of_ble_eq_true rfl⟩ (Nat.le_of_ble_eq_true rfl) ⟨Nat.le_of_ble_eq_true rfl, Nat.le_of_ble_eq_true rfl⟩ dX6_term_22 (fun z101 u101 bz101 h101 => ?_)
      obtain ⟨bq101, hFc101⟩ := h101
      replace hF := calR_i hF hFc101
      replace hF := hF.fc bq101
      refine x_istore_n C.1 (lv' := [(2, vI z101), (1, vI z83), (0, .ref (ad 72))]) dX6_term_25 (by decide) rfl ?_
      refine x_iload_n C.1 dX6_term_26 0 rfl ?_
      refine x_iconst C.1 (n := 4) dX6_term_27 ?_
      refine x_icmp_lt C.1 (tgt := 37) dX6_term_28 (by decide) (by omega) (by decide) (fun hc102 => ?_) (fun hc102 => ?_)
      · replace hF := hF.to (if_pos hc102)
        refine x_iconst C.1 (n := 1) dX6_term_37 ?_
        exact x_zret (S := (Nat → Nat → Int)) (post := (fun a (u : Nat → Nat → Int) => TI G u ∧ (0 ≤ a ∧ a ≤ 1) ∧ Sp a (u 72 4 = 3) ∧ FB (fun i k : Nat => (72 ≤ i ∧ i ≤ 72) ∨ (Rr 72 1 ≤ i ∧ i ≤ Rr 72 1 + 4)) V u ∧ (f_r_term3 V J Rr) (a, u))) (w1 := (fun u : Nat → Nat → Int => XW cy ad u J Rr)) (a := 1) C hr rfl dX6_term_38 (by decide) V85 rfl ⟨hI85, ⟨by decide, by decide⟩, (Or.inr ⟨rfl, hk84_0⟩), hB85, hF _ rfl⟩
      · replace hF := hF.to (if_neg hc102)
        refine x_iload_n C.1 dX6_term_31 0 rfl ?_
        refine x_bipush C.1 (n := 6) dX6_term_32 ?_
        refine x_icmp_le C.1 (tgt := 39) dX6_term_34 (by decide) (by omega) (by decide) (fun hc103 => ?_) (fun hc103 => ?_)
        · replace hF := hF.to (if_pos hc103)
          refine x_aload_n C.1 dX6_term_39 2 rfl ?_
          refine x_dup C.1 dX6_term_40 rfl ?_
          obtain ⟨z104, ez104, bz104⟩ := hI85.rd 72 2 (x := -2147483648) (y := 2147483647) rfl
          replace hF := hF.to (rdb_e (z := z104) ez104)
          refine x_getI C (N := 129) (i := 72) (by decide) rfl vc_X6 wx_X6 2 (by decide) wf_X6_22 rfl dX6_term_41 (a := z104) ez104 ?_
          refine x_iconst C.1 (n := 1) dX6_term_44 ?_
          refine x_iadd C.1 (v := z104 + 1) (by omega) dX6_term_45 ?_
          refine x_wrapg ?_
          intro z105 bz105 ew105
          replace hF := hF.to (rdb_e (z := z105) ew105.symm)
          refine x_putI C (N := 129) (i := 72) (by decide) rfl vc_X6 wx_X6 2 (by decide) wf_X6_22 tyX6 tyX6_ok nmX6 rfl (tyX6_ok 2 (by decide)) rfl dX6_term_46 rfl rfl ?_
          refine x_gV ?_
          intro V106 hV106
          have hI106 : TI G V106 := hI85.up hV106 rfl (by omega) rfl
          have hB106 := hB85.up hV106 (Or.inl (⟨by decide, by decide⟩))
          replace hF := hF.to (rdb_e (z := V106) hV106.symm)
          refine x_aload_n C.1 dX6_term_49 2 rfl ?_
          refine x_callViS C hE (As := []) (rest := []) 72 (xw_at (N := 129) (i := 72) (by decide) rfl) vc_X6 (r_factor3 l D cy aK aV ad G V106 J Rr hI106 hJ hR ((congrFun (congrFun hV106 72) 4).trans ((up2_n _ _ (Or.inr (by decide))).trans hk84_0))) (l1 := []) (l2 := []) (List.append_nil _).symm (w2 := fun u : Nat → Nat → Int => XW cy ad u J Rr) (fun _ => List.append_nil _) rfl wm_yX6_factor wn_X6 wl_X6_116 wi_yX6_factor we_yX6_factor hd_yX6_factor rfl ⟨Nat.le_of_ble_eq_true rfl, Nat.le_of_ble_eq_true rfl⟩ (Nat.le_of_ble_eq_true rfl) ⟨Nat.le_of_ble_eq_true rfl, Nat.le_of_ble_eq_true rfl⟩ dX6_term_50 (fun z107 V107 bz107 h107 => ?_)
          obtain ⟨hI107, bq107, hx107_0, hBc107, hFc107⟩ := h107
          replace hF := calVX_i hF hFc107 hBc107
          replace hF := hF.fc bq107
          have hB107 := hB106.tr hBc107 (fun i k h => (h.elim (fun h => (Or.inl h)) (fun h => (Or.inr (h)))))
          refine x_if_ne C.1 (tgt := 58) dX6_term_53 (by decide) (by omega) (fun hc108 => ?_) (fun hc108 => ?_)
          · replace hF := hF.to (if_pos hc108)
            have hon109 := Sp.on hx107_0 (by omega)
            refine x_aload_n C.1 dX6_term_58 2 rfl ?_
            obtain ⟨t110, et110, ht110⟩ := XR.into hR
            replace hF := hF.to (rdb_e (z := t110) et110)
            refine x_getR C (N := 129) (i := 72) (by decide) rfl vc_X6 wx_X6 1 (by decide) wf_X6_12 rfl dX6_term_59 (a := t110) et110 ?_
            refine x_iload_n C.1 dX6_term_62 0 rfl ?_
            refine x_iconst C.1 (n := 0) dX6_term_63 ?_
            refine x_callVv C (As := [vI z101, vI 0]) (rest := []) t110 (xw_at (N := 129) (i := t110) (by omega) (xd_T ht110)) vc_X9 (r_put l D cy ad G V107 J Rr hI107 hJ hR t110 ht110 z101 ⟨by omega, by omega⟩ 0 ⟨by decide, by decide⟩) (l1 := []) (l2 := []) (List.append_nil _).symm (w2 := fun u : Nat → Nat → Int => XW cy ad u J Rr) (fun _ => List.append_nil _) rfl wm_yX9_put wn_X9 wl_X6_106 wi_yX9_put we_yX9_put hd_yX9_put rfl ⟨Nat.le_of_ble_eq_true rfl, Nat.le_of_ble_eq_true rfl⟩ (Nat.le_of_ble_eq_true rfl) ⟨Nat.le_of_ble_eq_true rfl, Nat.le_of_ble_eq_true rfl⟩ dX6_term_64 (fun V111 h111 => ?_)
            obtain ⟨hI111, hx111_0, hBc111, hFc111⟩ := h111
            replace hF := calUX_i hF hFc111 hBc111
            have hB111 := hB107.tr hBc111 (fun i k h => (Or.inr (⟨by omega, by omega⟩)))
            refine x_iinc C.1 (v := z83 + 1) (lv' := [(1, vI (z83 + 1)), (2, vI z101), (0, .ref (ad 72))]) (by omega) dX6_term_67 1 rfl (by decide) rfl ?_
            refine x_goto C.1 (tgt := 11) dX6_term_70 (by decide) ?_
            refine x_lv [(1, vI (z83 + 1)), (0, .ref (ad 72))] [0, 2] rfl ?_
            have hmu85 : (201 - (z83 + 1)).toNat < (201 - z83).toNat := (by omega)
            exact ih85 (z83 + 1, V111) ⟨⟨by omega, by omega⟩, hI111, hB111, (hx111_0.trans hon109), ⟨nf85, Nat.lt_of_lt_of_le hmu85 (Nat.le_of_lt_succ hn85), hF⟩⟩ hmu85
          · replace hF := hF.to (if_neg (fun hh => hh hc108))
            refine x_iconst C.1 (n := 0) dX6_term_56 ?_
            exact x_zret (S := (Nat → Nat → Int)) (post := (fun a (u : Nat → Nat → Int) => TI G u ∧ (0 ≤ a ∧ a ≤ 1) ∧ Sp a (u 72 4 = 3) ∧ FB (fun i k : Nat => (72 ≤ i ∧ i ≤ 72) ∨ (Rr 72 1 ≤ i ∧ i ≤ Rr 72 1 + 4)) V u ∧ (f_r_term3 V J Rr) (a, u))) (w1 := (fun u : Nat → Nat → Int => XW cy ad u J Rr)) (a := 0) C hr rfl dX6_term_57 (by decide) V107 rfl ⟨hI107, ⟨by decide, by decide⟩, (Or.inl rfl), hB107, hF _ rfl⟩
        · replace hF := hF.to (if_neg hc103)
          refine x_iconst C.1 (n := 1) dX6_term_37 ?_
          exact x_zret (S := (Nat → Nat → Int)) (post := (fun a (u : Nat → Nat → Int) => TI G u ∧ (0 ≤ a ∧ a ≤ 1) ∧ Sp a (u 72 4 = 3) ∧ FB (fun i k : Nat => (72 ≤ i ∧ i ≤ 72) ∨ (Rr 72 1 ≤ i ∧ i ≤ Rr 72 1 + 4)) V u ∧ (f_r_term3 V J Rr) (a, u))) (w1 := (fun u : Nat → Nat → Int => XW cy ad u J Rr)) (a := 1) C hr rfl dX6_term_38 (by decide) V85 rfl ⟨hI85, ⟨by decide, by decide⟩, (Or.inr ⟨rfl, hk84_0⟩), hB85, hF _ rfl⟩
  · replace hF := hF.to (if_neg (fun hh => hh hc2))
    refine x_iconst C.1 (n := 0) dX6_term_7 ?_
    exact x_zret (S := (Nat → Nat → Int)) (post := (fun a (u : Nat → Nat → Int) => TI G u ∧ (0 ≤ a ∧ a ≤ 1) ∧ Sp a (u 72 4 = 3) ∧ FB (fun i k : Nat => (72 ≤ i ∧ i ≤ 72) ∨ (Rr 72 1 ≤ i ∧ i ≤ Rr 72 1 + 4)) V u ∧ (f_r_term3 V J Rr) (a, u))) (w1 := (fun u : Nat → Nat → Int => XW cy ad u J Rr)) (a := 0) C hr rfl dX6_term_8 (by decide) V1 rfl ⟨hI1, ⟨by decide, by decide⟩, (Or.inl rfl), hB1, hF _ rfl⟩
set_option maxRecDepth 100000 in
def f_r_sum3 (V : Nat → Nat → Int) (J : Nat → Nat → Int) (Rr : Nat → Nat → Nat) : (Int × (Nat → Nat → Int)) → Prop :=
  calVX (fun i k : Nat => (72 ≤ i ∧ i ≤ 72) ∨ (Rr 72 1 ≤ i ∧ i ≤ Rr 72 1 + 4)) V (f_r_term3 V J Rr) fun z1 V1 => fct (0 ≤ z1 ∧ z1 ≤ 1) <| (if ¬ z1 = 0 then lop2 (202) (fun rc133 (z131 : Int) (V133 : Nat → Nat → Int) => (if 200 ≤ z131 then rtn (1, V133) else calR (f_r_peek V133 J Rr) fun z156 => calR (f_r_stepOf z156) fun z157 => fct (-1 ≤ z157 ∧ z157 ≤ 9) <| (if z157 = 2 then rdb (V133 72 2) fun z159 => rdb (wr (z159 + 1)) fun z160 => rdb (up2 V133 72 2 z160) fun V161 => calVX (fun i k : Nat => (72 ≤ i ∧ i ≤ 72) ∨ (Rr 72 1 ≤ i ∧ i ≤ Rr 72 1 + 4)) V161 (f_r_term3 V161 J Rr) fun z162 V162 => fct (0 ≤ z162 ∧ z162 ≤ 1) <| (if ¬ z162 = 0 then rdb (Rr 72 1) fun t165 => calUX (fun i k : Nat => (t165 ≤ i ∧ i ≤ t165 + 4)) V162 (f_r_put t165 z157 0 V162 J Rr) fun V166 => rc133 (z131 + 1) V166 else rtn (0, V162)) else (if z157 = 3 then rdb (V133 72 2) fun z168 => rdb (wr (z168 + 1)) fun z169 => rdb (up2 V133 72 2 z169) fun V170 => calVX (fun i k : Nat => (72 ≤ i ∧ i ≤ 72) ∨ (Rr 72 1 ≤ i ∧ i ≤ Rr 72 1 + 4)) V170 (f_r_term3 V170 J Rr) fun z171 V171 => fct (0 ≤ z171 ∧ z171 ≤ 1) <| (if ¬ z171 = 0 then rdb (Rr 72 1) fun t174 => calUX (fun i k : Nat => (t174 ≤ i ∧ i ≤ t174 + 4)) V171 (f_r_put t174 z157 0 V171 J Rr) fun V175 => rc133 (z131 + 1) V175 else rtn (0, V171)) else rtn (1, V133))))) 0 V1 else rtn (0, V1))
set_option maxHeartbeats 8000000 in
set_option maxRecDepth 100000 in
theorem r_sum3 (l : Launch) (D : va_G) (cy : Nat → ClassId) (aK aV : Nat → Nat) (ad : Nat → Nat) (G : Nat → Nat → Int) (V J : Nat → Nat → Int) (Rr : Nat → Nat → Nat) (hI : TI G V) (hJ : VJ J) (hR : XR Rr) (hop : V 72 4 = 3) : zMiS l D (xTY cy) aK aV yX6_sum cX6_sum 3 (some .boolean) 30 650 0 0 [.ref (ad 72)] (XW cy ad V J Rr) (fun u : Nat → Nat → Int => XW cy ad u J Rr) (fun a (u : Nat → Nat → Int) => TI G u ∧ (0 ≤ a ∧ a ≤ 1) ∧ Sp a (u 72 4 = 3) ∧ FB (fun i k : Nat => (72 ≤ i ∧ i ≤ 72) ∨ (Rr 72 1 ≤ i ∧ i ≤ Rr 72 1 + 4)) V u ∧ (f_r_sum3 V J Rr) (a, u)) := by
  refine zMiS.mk (lv0 := [(0, .ref (ad 72))]) (by decide) rfl (Nat.le_of_ble_eq_true rfl) (fun p e s m below meth c A C hr hnm hAe hE => ?_)
  have C : xC2 p s m _ meth c D A s.heap 3 cX6_sum RX6 (xTY cy) := C
  have hB : FB (fun i k : Nat => (72 ≤ i ∧ i ≤ 72) ∨ (Rr 72 1 ≤ i ∧ i ≤ Rr 72 1 + 4)) V V := FB.rf _ _
  have hF := Imp.of_eq (f_r_sum3.eq_def V J Rr)
  refine x_aload_n C.1 dX6_sum_0 0 rfl ?_
  refine x_callViS C hE (As := []) (rest := []) 72 (xw_at (N := 129) (i := 72) (by decide) rfl) vc_X6 (r_term3 l D cy aK aV ad G V J Rr hI hJ hR hop) (l1 := []) (l2 := []) (List.append_nil _).symm (w2 := fun u : Nat → Nat → Int => XW cy ad u J Rr) (fun _ => List.append_nil _) rfl wm_yX6_term wn_X6 wl_X6_113 wi_yX6_term we_yX6_term hd_yX6_term rfl ⟨Nat.le_of_ble_eq_true rfl, Nat.le_of_ble_eq_true rfl⟩ (Nat.le_of_ble_eq_true rfl) ⟨Nat.le_of_ble_eq_true rfl, Nat.le_of_ble_eq_true rfl⟩ dX6_sum_1 (fun z1 V1 bz1 h1 => ?_)
  obtain ⟨hI1, bq1, hx1_0, hBc1, hFc1⟩ := h1
  replace hF := calVX_i hF hFc1 hBc1
  replace hF := hF.fc bq1
  have hB1 := hB.tr hBc1 (fun i k h => (h.elim (fun h => (Or.inl h)) (fun h => (Or.inr (h)))))
  refine x_if_ne C.1 (tgt := 9) dX6_sum_4 (by decide) (by omega) (fun hc2 => ?_) (fun hc2 => ?_)
  · replace hF := hF.to (if_pos hc2)
    have hon3 := Sp.on hx1_0 (by omega)
    refine x_iconst C.1 (n := 0) dX6_sum_9 ?_
    refine x_istore_n C.1 (lv' := [(1, vI 0), (0, .ref (ad 72))]) dX6_sum_10 (by decide) rfl ?_
    obtain ⟨bd133, hbd133, hF⟩ := lop2_ex hF
    refine x_loop (I := fun x : Int × (Nat → Nat → Int) => match x with | (z131, V133) => (0 ≤ z131 ∧ z131 ≤ 200) ∧ TI G V133 ∧ FB (fun i k : Nat => (72 ≤ i ∧ i ≤ 72) ∨ (Rr 72 1 ≤ i ∧ i ≤ Rr 72 1 + 4)) V V133 ∧ V133 72 4 = 3 ∧ (∃ nf : Nat, (201 - z131).toNat < nf ∧ Imp (lop2 nf bd133 z131 V133) (f_r_sum3 V J Rr))) (μ := fun x : Int × (Nat → Nat → Int) => match x with | (z131, V133) => (201 - z131).toNat) (wsf := fun x : Int × (Nat → Nat → Int) => match x with | (z131, V133) => XW cy ad V133 J Rr) (lvf := fun x : Int × (Nat → Nat → Int) => match x with | (z131, V133) => [(1, vI z131), (0, .ref (ad 72))]) (fun x hI133x ih133 => ?_) (0, V1) ⟨⟨by decide, by decide⟩, hI1, hB1, hon3, ⟨_, (by omega), hF⟩⟩ rfl rfl
    obtain ⟨z131, V133⟩ := x
    obtain ⟨bz131, hI133, hB133, hk132_0, nf133, hn133, hF⟩ := hI133x
    try dsimp only
    obtain ⟨nf133, rfl⟩ : ∃ mm, nf133 = mm + 1 := ⟨nf133 - 1, (Nat.succ_pred_eq_of_pos (Nat.lt_of_le_of_lt (Nat.zero_le _) hn133)).symm⟩
    replace hF := hF.to (lop2_s hbd133)
    refine x_iload_n C.1 dX6_sum_11 0 rfl ?_
    refine x_sipush C.1 (n := 200) dX6_sum_12 ?_
    refine x_icmp_ge C.1 (tgt := 72) dX6_sum_15 (by decide) (by omega) (by decide) (fun hc155 => ?_) (fun hc155 => ?_)
    · replace hF := hF.to (if_pos hc155)
      refine x_iconst C.1 (n := 1) dX6_sum_72 ?_
      exact x_zret (S := (Nat → Nat → Int)) (post := (fun a (u : Nat → Nat → Int) => TI G u ∧ (0 ≤ a ∧ a ≤ 1) ∧ Sp a (u 72 4 = 3) ∧ FB (fun i k : Nat => (72 ≤ i ∧ i ≤ 72) ∨ (Rr 72 1 ≤ i ∧ i ≤ Rr 72 1 + 4)) V u ∧ (f_r_sum3 V J Rr) (a, u))) (w1 := (fun u : Nat → Nat → Int => XW cy ad u J Rr)) (a := 1) C hr rfl dX6_sum_73 (by decide) V133 rfl ⟨hI133, ⟨by decide, by decide⟩, (Or.inr ⟨rfl, hk132_0⟩), hB133, hF _ rfl⟩
    · replace hF := hF.to (if_neg hc155)
      refine x_aload_n C.1 dX6_sum_18 1 rfl ?_
      refine x_callVi C (As := []) (rest := []) 72 (xw_at (N := 129) (i := 72) (by decide) rfl) vc_X6 (r_peek l D cy ad G V133 J Rr hI133 hJ hR ) (l1 := []) (l2 := []) (List.append_nil _).symm (w2 := fun _ => XW cy ad V133 J Rr) (fun _ => List.append_nil _) rfl wm_yX6_peek wn_X6 wl_X6_54 wi_yX6_peek we_yX6_peek hd_yX6_peek rfl ⟨Nat.le_of_ble_eq_true rfl, Nat.le_of_ble_eq_true rfl⟩ (Nat.le_of_ble_eq_true rfl) ⟨Nat.le_of_ble_eq_true rfl, Nat.le_of_ble_eq_true rfl⟩ dX6_sum_19 (fun z156 u156 bz156 h156 => ?_)
      have hFc156 := h156
      replace hF := calR_i hF hFc156
      refine x_callSi C (As := [vI z156]) (rest := []) (r_stepOf l D cy z156 ⟨by omega, by omega⟩) (l1 := []) (l2 := _) rfl (w2 := fun _ => _) (fun _ => rfl) rfl wm_yX6_stepOf wn_X6 wl_X6_110 wi_yX6_stepOf hd_yX6_stepOf rfl ⟨Nat.le_of_ble_eq_true rfl, Nat.le_of_ble_eq_true rfl⟩ (Nat.le_of_ble_eq_true rfl) ⟨Nat.le_of_ble_eq_true rfl, Nat.le_of_ble_eq_true rfl⟩ dX6_sum_22 (fun z157 u157 bz157 h157 => ?_)
      obtain ⟨bq157, hFc157⟩ := h157
      replace hF := calR_i hF hFc157
      replace hF := hF.fc bq157
      refine x_istore_n C.1 (lv' := [(2, vI z157), (1, vI z131), (0, .ref (ad 72))]) dX6_sum_25 (by decide) rfl ?_
      refine x_iload_n C.1 dX6_sum_26 0 rfl ?_
      refine x_iconst C.1 (n := 2) dX6_sum_27 ?_
      refine x_icmp_eq C.1 (tgt := 38) dX6_sum_28 (by decide) (by omega) (by decide) (fun hc158 => ?_) (fun hc158 => ?_)
      · replace hF := hF.to (if_pos hc158)
        refine x_aload_n C.1 dX6_sum_38 2 rfl ?_
        refine x_dup C.1 dX6_sum_39 rfl ?_
        obtain ⟨z159, ez159, bz159⟩ := hI133.rd 72 2 (x := -2147483648) (y := 2147483647) rfl
        replace hF := hF.to (rdb_e (z := z159) ez159)
        refine x_getI C (N := 129) (i := 72) (by decide) rfl vc_X6 wx_X6 2 (by decide) wf_X6_22 rfl dX6_sum_40 (a := z159) ez159 ?_
        refine x_iconst C.1 (n := 1) dX6_sum_43 ?_
        refine x_iadd C.1 (v := z159 + 1) (by omega) dX6_sum_44 ?_
        refine x_wrapg ?_
        intro z160 bz160 ew160
        replace hF := hF.to (rdb_e (z := z160) ew160.symm)
        refine x_putI C (N := 129) (i := 72) (by decide) rfl vc_X6 wx_X6 2 (by decide) wf_X6_22 tyX6 tyX6_ok nmX6 rfl (tyX6_ok 2 (by decide)) rfl dX6_sum_45 rfl rfl ?_
        refine x_gV ?_
        intro V161 hV161
        have hI161 : TI G V161 := hI133.up hV161 rfl (by omega) rfl
        have hB161 := hB133.up hV161 (Or.inl (⟨by decide, by decide⟩))
        replace hF := hF.to (rdb_e (z := V161) hV161.symm)
        refine x_aload_n C.1 dX6_sum_48 2 rfl ?_
        refine x_callViS C hE (As := []) (rest := []) 72 (xw_at (N := 129) (i := 72) (by decide) rfl) vc_X6 (r_term3 l D cy aK aV ad G V161 J Rr hI161 hJ hR ((congrFun (congrFun hV161 72) 4).trans ((up2_n _ _ (Or.inr (by decide))).trans hk132_0))) (l1 := []) (l2 := []) (List.append_nil _).symm (w2 := fun u : Nat → Nat → Int => XW cy ad u J Rr) (fun _ => List.append_nil _) rfl wm_yX6_term wn_X6 wl_X6_113 wi_yX6_term we_yX6_term hd_yX6_term rfl ⟨Nat.le_of_ble_eq_true rfl, Nat.le_of_ble_eq_true rfl⟩ (Nat.le_of_ble_eq_true rfl) ⟨Nat.le_of_ble_eq_true rfl, Nat.le_of_ble_eq_true rfl⟩ dX6_sum_49 (fun z162 V162 bz162 h162 => ?_)
        obtain ⟨hI162, bq162, hx162_0, hBc162, hFc162⟩ := h162
        replace hF := calVX_i hF hFc162 hBc162
        replace hF := hF.fc bq162
        have hB162 := hB161.tr hBc162 (fun i k h => (h.elim (fun h => (Or.inl h)) (fun h => (Or.inr (h)))))
        refine x_if_ne C.1 (tgt := 57) dX6_sum_52 (by decide) (by omega) (fun hc163 => ?_) (fun hc163 => ?_)
        · replace hF := hF.to (if_pos hc163)
          have hon164 := Sp.on hx162_0 (by omega)
          refine x_aload_n C.1 dX6_sum_57 2 rfl ?_
          obtain ⟨t165, et165, ht165⟩ := XR.into hR
          replace hF := hF.to (rdb_e (z := t165) et165)
          refine x_getR C (N := 129) (i := 72) (by decide) rfl vc_X6 wx_X6 1 (by decide) wf_X6_12 rfl dX6_sum_58 (a := t165) et165 ?_
          refine x_iload_n C.1 dX6_sum_61 0 rfl ?_
          refine x_iconst C.1 (n := 0) dX6_sum_62 ?_
          refine x_callVv C (As := [vI z157, vI 0]) (rest := []) t165 (xw_at (N := 129) (i := t165) (by omega) (xd_T ht165)) vc_X9 (r_put l D cy ad G V162 J Rr hI162 hJ hR t165 ht165 z157 ⟨by omega, by omega⟩ 0 ⟨by decide, by decide⟩) (l1 := []) (l2 := []) (List.append_nil _).symm (w2 := fun u : Nat → Nat → Int => XW cy ad u J Rr) (fun _ => List.append_nil _) rfl wm_yX9_put wn_X9 wl_X6_106 wi_yX9_put we_yX9_put hd_yX9_put rfl ⟨Nat.le_of_ble_eq_true rfl, Nat.le_of_ble_eq_true rfl⟩ (Nat.le_of_ble_eq_true rfl) ⟨Nat.le_of_ble_eq_true rfl, Nat.le_of_ble_eq_true rfl⟩ dX6_sum_63 (fun V166 h166 => ?_)
          obtain ⟨hI166, hx166_0, hBc166, hFc166⟩ := h166
          replace hF := calUX_i hF hFc166 hBc166
          have hB166 := hB162.tr hBc166 (fun i k h => (Or.inr (⟨by omega, by omega⟩)))
          refine x_iinc C.1 (v := z131 + 1) (lv' := [(1, vI (z131 + 1)), (2, vI z157), (0, .ref (ad 72))]) (by omega) dX6_sum_66 1 rfl (by decide) rfl ?_
          refine x_goto C.1 (tgt := 11) dX6_sum_69 (by decide) ?_
          refine x_lv [(1, vI (z131 + 1)), (0, .ref (ad 72))] [0, 2] rfl ?_
          have hmu133 : (201 - (z131 + 1)).toNat < (201 - z131).toNat := (by omega)
          exact ih133 (z131 + 1, V166) ⟨⟨by omega, by omega⟩, hI166, hB166, (hx166_0.trans hon164), ⟨nf133, Nat.lt_of_lt_of_le hmu133 (Nat.le_of_lt_succ hn133), hF⟩⟩ hmu133
        · replace hF := hF.to (if_neg (fun hh => hh hc163))
          refine x_iconst C.1 (n := 0) dX6_sum_55 ?_
          exact x_zret (S := (Nat → Nat → Int)) (post := (fun a (u : Nat → Nat → Int) => TI G u ∧ (0 ≤ a ∧ a ≤ 1) ∧ Sp a (u 72 4 = 3) ∧ FB (fun i k : Nat => (72 ≤ i ∧ i ≤ 72) ∨ (Rr 72 1 ≤ i ∧ i ≤ Rr 72 1 + 4)) V u ∧ (f_r_sum3 V J Rr) (a, u))) (w1 := (fun u : Nat → Nat → Int => XW cy ad u J Rr)) (a := 0) C hr rfl dX6_sum_56 (by decide) V162 rfl ⟨hI162, ⟨by decide, by decide⟩, (Or.inl rfl), hB162, hF _ rfl⟩
      · replace hF := hF.to (if_neg hc158)
        refine x_iload_n C.1 dX6_sum_31 0 rfl ?_
        refine x_iconst C.1 (n := 3) dX6_sum_32 ?_
        refine x_icmp_eq C.1 (tgt := 38) dX6_sum_33 (by decide) (by omega) (by decide) (fun hc167 => ?_) (fun hc167 => ?_)
        · replace hF := hF.to (if_pos hc167)
          refine x_aload_n C.1 dX6_sum_38 2 rfl ?_
          refine x_dup C.1 dX6_sum_39 rfl ?_
          obtain ⟨z168, ez168, bz168⟩ := hI133.rd 72 2 (x := -2147483648) (y := 2147483647) rfl
          replace hF := hF.to (rdb_e (z := z168) ez168)
          refine x_getI C (N := 129) (i := 72) (by decide) rfl vc_X6 wx_X6 2 (by decide) wf_X6_22 rfl dX6_sum_40 (a := z168) ez168 ?_
          refine x_iconst C.1 (n := 1) dX6_sum_43 ?_
          refine x_iadd C.1 (v := z168 + 1) (by omega) dX6_sum_44 ?_
          refine x_wrapg ?_
          intro z169 bz169 ew169
          replace hF := hF.to (rdb_e (z := z169) ew169.symm)
          refine x_putI C (N := 129) (i := 72) (by decide) rfl vc_X6 wx_X6 2 (by decide) wf_X6_22 tyX6 tyX6_ok nmX6 rfl (tyX6_ok 2 (by decide)) rfl dX6_sum_45 rfl rfl ?_
          refine x_gV ?_
          intro V170 hV170
          have hI170 : TI G V170 := hI133.up hV170 rfl (by omega) rfl
          have hB170 := hB133.up hV170 (Or.inl (⟨by decide, by decide⟩))
          replace hF := hF.to (rdb_e (z := V170) hV170.symm)
          refine x_aload_n C.1 dX6_sum_48 2 rfl ?_
          refine x_callViS C hE (As := []) (rest := []) 72 (xw_at (N := 129) (i := 72) (by decide) rfl) vc_X6 (r_term3 l D cy aK aV ad G V170 J Rr hI170 hJ hR ((congrFun (congrFun hV170 72) 4).trans ((up2_n _ _ (Or.inr (by decide))).trans hk132_0))) (l1 := []) (l2 := []) (List.append_nil _).symm (w2 := fun u : Nat → Nat → Int => XW cy ad u J Rr) (fun _ => List.append_nil _) rfl wm_yX6_term wn_X6 wl_X6_113 wi_yX6_term we_yX6_term hd_yX6_term rfl ⟨Nat.le_of_ble_eq_true rfl, Nat.le_of_ble_eq_true rfl⟩ (Nat.le_of_ble_eq_true rfl) ⟨Nat.le_of_ble_eq_true rfl, Nat.le_of_ble_eq_true rfl⟩ dX6_sum_49 (fun z171 V171 bz171 h171 => ?_)
          obtain ⟨hI171, bq171, hx171_0, hBc171, hFc171⟩ := h171
          replace hF := calVX_i hF hFc171 hBc171
          replace hF := hF.fc bq171
          have hB171 := hB170.tr hBc171 (fun i k h => (h.elim (fun h => (Or.inl h)) (fun h => (Or.inr (h)))))
          refine x_if_ne C.1 (tgt := 57) dX6_sum_52 (by decide) (by omega) (fun hc172 => ?_) (fun hc172 => ?_)
          · replace hF := hF.to (if_pos hc172)
            have hon173 := Sp.on hx171_0 (by omega)
            refine x_aload_n C.1 dX6_sum_57 2 rfl ?_
            obtain ⟨t174, et174, ht174⟩ := XR.into hR
            replace hF := hF.to (rdb_e (z := t174) et174)
            refine x_getR C (N := 129) (i := 72) (by decide) rfl vc_X6 wx_X6 1 (by decide) wf_X6_12 rfl dX6_sum_58 (a := t174) et174 ?_
            refine x_iload_n C.1 dX6_sum_61 0 rfl ?_
            refine x_iconst C.1 (n := 0) dX6_sum_62 ?_
            refine x_callVv C (As := [vI z157, vI 0]) (rest := []) t174 (xw_at (N := 129) (i := t174) (by omega) (xd_T ht174)) vc_X9 (r_put l D cy ad G V171 J Rr hI171 hJ hR t174 ht174 z157 ⟨by omega, by omega⟩ 0 ⟨by decide, by decide⟩) (l1 := []) (l2 := []) (List.append_nil _).symm (w2 := fun u : Nat → Nat → Int => XW cy ad u J Rr) (fun _ => List.append_nil _) rfl wm_yX9_put wn_X9 wl_X6_106 wi_yX9_put we_yX9_put hd_yX9_put rfl ⟨Nat.le_of_ble_eq_true rfl, Nat.le_of_ble_eq_true rfl⟩ (Nat.le_of_ble_eq_true rfl) ⟨Nat.le_of_ble_eq_true rfl, Nat.le_of_ble_eq_true rfl⟩ dX6_sum_63 (fun V175 h175 => ?_)
            obtain ⟨hI175, hx175_0, hBc175, hFc175⟩ := h175
            replace hF := calUX_i hF hFc175 hBc175
            have hB175 := hB171.tr hBc175 (fun i k h => (Or.inr (⟨by omega, by omega⟩)))
            refine x_iinc C.1 (v := z131 + 1) (lv' := [(1, vI (z131 + 1)), (2, vI z157), (0, .ref (ad 72))]) (by omega) dX6_sum_66 1 rfl (by decide) rfl ?_
            refine x_goto C.1 (tgt := 11) dX6_sum_69 (by decide) ?_
            refine x_lv [(1, vI (z131 + 1)), (0, .ref (ad 72))] [0, 2] rfl ?_
            have hmu133 : (201 - (z131 + 1)).toNat < (201 - z131).toNat := (by omega)
            exact ih133 (z131 + 1, V175) ⟨⟨by omega, by omega⟩, hI175, hB175, (hx175_0.trans hon173), ⟨nf133, Nat.lt_of_lt_of_le hmu133 (Nat.le_of_lt_succ hn133), hF⟩⟩ hmu133
          · replace hF := hF.to (if_neg (fun hh => hh hc172))
            refine x_iconst C.1 (n := 0) dX6_sum_55 ?_
            exact x_zret (S := (Nat → Nat → Int)) (post := (fun a (u : Nat → Nat → Int) => TI G u ∧ (0 ≤ a ∧ a ≤ 1) ∧ Sp a (u 72 4 = 3) ∧ FB (fun i k : Nat => (72 ≤ i ∧ i ≤ 72) ∨ (Rr 72 1 ≤ i ∧ i ≤ Rr 72 1 + 4)) V u ∧ (f_r_sum3 V J Rr) (a, u))) (w1 := (fun u : Nat → Nat → Int => XW cy ad u J Rr)) (a := 0) C hr rfl dX6_sum_56 (by decide) V171 rfl ⟨hI171, ⟨by decide, by decide⟩, (Or.inl rfl), hB171, hF _ rfl⟩
        · replace hF := hF.to (if_neg hc167)
          refine x_iconst C.1 (n := 1) dX6_sum_36 ?_
          exact x_zret (S := (Nat → Nat → Int)) (post := (fun a (u : Nat → Nat → Int) => TI G u ∧ (0 ≤ a ∧ a ≤ 1) ∧ Sp a (u 72 4 = 3) ∧ FB (fun i k : Nat => (72 ≤ i ∧ i ≤ 72) ∨ (Rr 72 1 ≤ i ∧ i ≤ Rr 72 1 + 4)) V u ∧ (f_r_sum3 V J Rr) (a, u))) (w1 := (fun u : Nat → Nat → Int => XW cy ad u J Rr)) (a := 1) C hr rfl dX6_sum_37 (by decide) V133 rfl ⟨hI133, ⟨by decide, by decide⟩, (Or.inr ⟨rfl, hk132_0⟩), hB133, hF _ rfl⟩
  · replace hF := hF.to (if_neg (fun hh => hh hc2))
    refine x_iconst C.1 (n := 0) dX6_sum_7 ?_
    exact x_zret (S := (Nat → Nat → Int)) (post := (fun a (u : Nat → Nat → Int) => TI G u ∧ (0 ≤ a ∧ a ≤ 1) ∧ Sp a (u 72 4 = 3) ∧ FB (fun i k : Nat => (72 ≤ i ∧ i ≤ 72) ∨ (Rr 72 1 ≤ i ∧ i ≤ Rr 72 1 + 4)) V u ∧ (f_r_sum3 V J Rr) (a, u))) (w1 := (fun u : Nat → Nat → Int => XW cy ad u J Rr)) (a := 0) C hr rfl dX6_sum_8 (by decide) V1 rfl ⟨hI1, ⟨by decide, by decide⟩, (Or.inl rfl), hB1, hF _ rfl⟩
set_option maxRecDepth 100000 in
def f_r_comparison3 (V : Nat → Nat → Int) (J : Nat → Nat → Int) (Rr : Nat → Nat → Nat) : (Int × (Nat → Nat → Int)) → Prop :=
  calVX (fun i k : Nat => (72 ≤ i ∧ i ≤ 72) ∨ (Rr 72 1 ≤ i ∧ i ≤ Rr 72 1 + 4)) V (f_r_sum3 V J Rr) fun z1 V1 => fct (0 ≤ z1 ∧ z1 ≤ 1) <| (if ¬ z1 = 0 then calR (f_r_peek V1 J Rr) fun z4 => calR (f_r_stepOf z4) fun z5 => fct (-1 ≤ z5 ∧ z5 ≤ 9) <| (if 7 ≤ z5 then rdb (V1 72 2) fun z7 => rdb (wr (z7 + 1)) fun z8 => rdb (up2 V1 72 2 z8) fun V9 => calVX (fun i k : Nat => (72 ≤ i ∧ i ≤ 72) ∨ (Rr 72 1 ≤ i ∧ i ≤ Rr 72 1 + 4)) V9 (f_r_sum3 V9 J Rr) fun z10 V10 => fct (0 ≤ z10 ∧ z10 ≤ 1) <| (if ¬ z10 = 0 then rdb (Rr 72 1) fun t13 => calUX (fun i k : Nat => (t13 ≤ i ∧ i ≤ t13 + 4)) V10 (f_r_put t13 z5 0 V10 J Rr) fun V14 => rtn (1, V14) else rtn (0, V10)) else calVX (fun i k : Nat => (72 ≤ i ∧ i ≤ 72)) V1 (f_r_fail 1 V1 J Rr) fun z15 V15 => fct (0 ≤ z15 ∧ z15 ≤ 0) <| rtn (z15, V15)) else rtn (0, V1))
set_option maxHeartbeats 8000000 in
set_option maxRecDepth 100000 in
theorem r_comparison3 (l : Launch) (D : va_G) (cy : Nat → ClassId) (aK aV : Nat → Nat) (ad : Nat → Nat) (G : Nat → Nat → Int) (V J : Nat → Nat → Int) (Rr : Nat → Nat → Nat) (hI : TI G V) (hJ : VJ J) (hR : XR Rr) (hop : V 72 4 = 3) : zMiS l D (xTY cy) aK aV yX6_comparison cX6_comparison 2 (some .boolean) 31 672 0 0 [.ref (ad 72)] (XW cy ad V J Rr) (fun u : Nat → Nat → Int => XW cy ad u J Rr) (fun a (u : Nat → Nat → Int) => TI G u ∧ (0 ≤ a ∧ a ≤ 1) ∧ Sp a (u 72 4 = 3) ∧ FB (fun i k : Nat => (72 ≤ i ∧ i ≤ 72) ∨ (Rr 72 1 ≤ i ∧ i ≤ Rr 72 1 + 4)) V u ∧ (f_r_comparison3 V J Rr) (a, u)) := by
  refine zMiS.mk (lv0 := [(0, .ref (ad 72))]) (by decide) rfl (Nat.le_of_ble_eq_true rfl) (fun p e s m below meth c A C hr hnm hAe hE => ?_)
  have C : xC2 p s m _ meth c D A s.heap 2 cX6_comparison RX6 (xTY cy) := C
  have hB : FB (fun i k : Nat => (72 ≤ i ∧ i ≤ 72) ∨ (Rr 72 1 ≤ i ∧ i ≤ Rr 72 1 + 4)) V V := FB.rf _ _
  have hF := Imp.of_eq (f_r_comparison3.eq_def V J Rr)
  refine x_aload_n C.1 dX6_comparison_0 0 rfl ?_
  refine x_callViS C hE (As := []) (rest := []) 72 (xw_at (N := 129) (i := 72) (by decide) rfl) vc_X6 (r_sum3 l D cy aK aV ad G V J Rr hI hJ hR hop) (l1 := []) (l2 := []) (List.append_nil _).symm (w2 := fun u : Nat → Nat → Int => XW cy ad u J Rr) (fun _ => List.append_nil _) rfl wm_yX6_sum wn_X6 wl_X6_71 wi_yX6_sum we_yX6_sum hd_yX6_sum rfl ⟨Nat.le_of_ble_eq_true rfl, Nat.le_of_ble_eq_true rfl⟩ (Nat.le_of_ble_eq_true rfl) ⟨Nat.le_of_ble_eq_true rfl, Nat.le_of_ble_eq_true rfl⟩ dX6_comparison_1 (fun z1 V1 bz1 h1 => ?_)
  obtain ⟨hI1, bq1, hx1_0, hBc1, hFc1⟩ := h1
  replace hF := calVX_i hF hFc1 hBc1
  replace hF := hF.fc bq1
  have hB1 := hB.tr hBc1 (fun i k h => (h.elim (fun h => (Or.inl h)) (fun h => (Or.inr (h)))))
  refine x_if_ne C.1 (tgt := 9) dX6_comparison_4 (by decide) (by omega) (fun hc2 => ?_) (fun hc2 => ?_)
  · replace hF := hF.to (if_pos hc2)
    have hon3 := Sp.on hx1_0 (by omega)
    refine x_aload_n C.1 dX6_comparison_9 0 rfl ?_
    refine x_callVi C (As := []) (rest := []) 72 (xw_at (N := 129) (i := 72) (by decide) rfl) vc_X6 (r_peek l D cy ad G V1 J Rr hI1 hJ hR ) (l1 := []) (l2 := []) (List.append_nil _).symm (w2 := fun _ => XW cy ad V1 J Rr) (fun _ => List.append_nil _) rfl wm_yX6_peek wn_X6 wl_X6_54 wi_yX6_peek we_yX6_peek hd_yX6_peek rfl ⟨Nat.le_of_ble_eq_true rfl, Nat.le_of_ble_eq_true rfl⟩ (Nat.le_of_ble_eq_true rfl) ⟨Nat.le_of_ble_eq_true rfl, Nat.le_of_ble_eq_true rfl⟩ dX6_comparison_10 (fun z4 u4 bz4 h4 => ?_)
    have hFc4 := h4
    replace hF := calR_i hF hFc4
    refine x_callSi C (As := [vI z4]) (rest := []) (r_stepOf l D cy z4 ⟨by omega, by omega⟩) (l1 := []) (l2 := _) rfl (w2 := fun _ => _) (fun _ => rfl) rfl wm_yX6_stepOf wn_X6 wl_X6_110 wi_yX6_stepOf hd_yX6_stepOf rfl ⟨Nat.le_of_ble_eq_true rfl, Nat.le_of_ble_eq_true rfl⟩ (Nat.le_of_ble_eq_true rfl) ⟨Nat.le_of_ble_eq_true rfl, Nat.le_of_ble_eq_true rfl⟩ dX6_comparison_13 (fun z5 u5 bz5 h5 => ?_)
    obtain ⟨bq5, hFc5⟩ := h5
    replace hF := calR_i hF hFc5
    replace hF := hF.fc bq5
    refine x_istore_n C.1 (lv' := [(1, vI z5), (0, .ref (ad 72))]) dX6_comparison_16 (by decide) rfl ?_
    refine x_iload_n C.1 dX6_comparison_17 0 rfl ?_
    refine x_bipush C.1 (n := 7) dX6_comparison_18 ?_
    refine x_icmp_ge C.1 (tgt := 29) dX6_comparison_20 (by decide) (by omega) (by decide) (fun hc6 => ?_) (fun hc6 => ?_)
    · replace hF := hF.to (if_pos hc6)
      refine x_aload_n C.1 dX6_comparison_29 1 rfl ?_
      refine x_dup C.1 dX6_comparison_30 rfl ?_
      obtain ⟨z7, ez7, bz7⟩ := hI1.rd 72 2 (x := -2147483648) (y := 2147483647) rfl
      replace hF := hF.to (rdb_e (z := z7) ez7)
      refine x_getI C (N := 129) (i := 72) (by decide) rfl vc_X6 wx_X6 2 (by decide) wf_X6_22 rfl dX6_comparison_31 (a := z7) ez7 ?_
      refine x_iconst C.1 (n := 1) dX6_comparison_34 ?_
      refine x_iadd C.1 (v := z7 + 1) (by omega) dX6_comparison_35 ?_
      refine x_wrapg ?_
      intro z8 bz8 ew8
      replace hF := hF.to (rdb_e (z := z8) ew8.symm)
      refine x_putI C (N := 129) (i := 72) (by decide) rfl vc_X6 wx_X6 2 (by decide) wf_X6_22 tyX6 tyX6_ok nmX6 rfl (tyX6_ok 2 (by decide)) rfl dX6_comparison_36 rfl rfl ?_
      refine x_gV ?_
      intro V9 hV9
      have hI9 : TI G V9 := hI1.up hV9 rfl (by omega) rfl
      have hB9 := hB1.up hV9 (Or.inl (⟨by decide, by decide⟩))
      replace hF := hF.to (rdb_e (z := V9) hV9.symm)
      refine x_aload_n C.1 dX6_comparison_39 1 rfl ?_
      refine x_callViS C hE (As := []) (rest := []) 72 (xw_at (N := 129) (i := 72) (by decide) rfl) vc_X6 (r_sum3 l D cy aK aV ad G V9 J Rr hI9 hJ hR ((congrFun (congrFun hV9 72) 4).trans ((up2_n _ _ (Or.inr (by decide))).trans hon3))) (l1 := []) (l2 := []) (List.append_nil _).symm (w2 := fun u : Nat → Nat → Int => XW cy ad u J Rr) (fun _ => List.append_nil _) rfl wm_yX6_sum wn_X6 wl_X6_71 wi_yX6_sum we_yX6_sum hd_yX6_sum rfl ⟨Nat.le_of_ble_eq_true rfl, Nat.le_of_ble_eq_true rfl⟩ (Nat.le_of_ble_eq_true rfl) ⟨Nat.le_of_ble_eq_true rfl, Nat.le_of_ble_eq_true rfl⟩ dX6_comparison_40 (fun z10 V10 bz10 h10 => ?_)
      obtain ⟨hI10, bq10, hx10_0, hBc10, hFc10⟩ := h10
      replace hF := calVX_i hF hFc10 hBc10
      replace hF := hF.fc bq10
      have hB10 := hB9.tr hBc10 (fun i k h => (h.elim (fun h => (Or.inl h)) (fun h => (Or.inr (h)))))
      refine x_if_ne C.1 (tgt := 48) dX6_comparison_43 (by decide) (by omega) (fun hc11 => ?_) (fun hc11 => ?_)
      · replace hF := hF.to (if_pos hc11)
        have hon12 := Sp.on hx10_0 (by omega)
        refine x_aload_n C.1 dX6_comparison_48 1 rfl ?_
        obtain ⟨t13, et13, ht13⟩ := XR.into hR
        replace hF := hF.to (rdb_e (z := t13) et13)
        refine x_getR C (N := 129) (i := 72) (by decide) rfl vc_X6 wx_X6 1 (by decide) wf_X6_12 rfl dX6_comparison_49 (a := t13) et13 ?_
        refine x_iload_n C.1 dX6_comparison_52 0 rfl ?_
        refine x_iconst C.1 (n := 0) dX6_comparison_53 ?_
        refine x_callVv C (As := [vI z5, vI 0]) (rest := []) t13 (xw_at (N := 129) (i := t13) (by omega) (xd_T ht13)) vc_X9 (r_put l D cy ad G V10 J Rr hI10 hJ hR t13 ht13 z5 ⟨by omega, by omega⟩ 0 ⟨by decide, by decide⟩) (l1 := []) (l2 := []) (List.append_nil _).symm (w2 := fun u : Nat → Nat → Int => XW cy ad u J Rr) (fun _ => List.append_nil _) rfl wm_yX9_put wn_X9 wl_X6_106 wi_yX9_put we_yX9_put hd_yX9_put rfl ⟨Nat.le_of_ble_eq_true rfl, Nat.le_of_ble_eq_true rfl⟩ (Nat.le_of_ble_eq_true rfl) ⟨Nat.le_of_ble_eq_true rfl, Nat.le_of_ble_eq_true rfl⟩ dX6_comparison_54 (fun V14 h14 => ?_)
        obtain ⟨hI14, hx14_0, hBc14, hFc14⟩ := h14
        replace hF := calUX_i hF hFc14 hBc14
        have hB14 := hB10.tr hBc14 (fun i k h => (Or.inr (⟨by omega, by omega⟩)))
        refine x_iconst C.1 (n := 1) dX6_comparison_57 ?_
        exact x_zret (S := (Nat → Nat → Int)) (post := (fun a (u : Nat → Nat → Int) => TI G u ∧ (0 ≤ a ∧ a ≤ 1) ∧ Sp a (u 72 4 = 3) ∧ FB (fun i k : Nat => (72 ≤ i ∧ i ≤ 72) ∨ (Rr 72 1 ≤ i ∧ i ≤ Rr 72 1 + 4)) V u ∧ (f_r_comparison3 V J Rr) (a, u))) (w1 := (fun u : Nat → Nat → Int => XW cy ad u J Rr)) (a := 1) C hr rfl dX6_comparison_58 (by decide) V14 rfl ⟨hI14, ⟨by decide, by decide⟩, (Or.inr ⟨rfl, (hx14_0.trans hon12)⟩), hB14, hF _ rfl⟩
      · replace hF := hF.to (if_neg (fun hh => hh hc11))
        refine x_iconst C.1 (n := 0) dX6_comparison_46 ?_
        exact x_zret (S := (Nat → Nat → Int)) (post := (fun a (u : Nat → Nat → Int) => TI G u ∧ (0 ≤ a ∧ a ≤ 1) ∧ Sp a (u 72 4 = 3) ∧ FB (fun i k : Nat => (72 ≤ i ∧ i ≤ 72) ∨ (Rr 72 1 ≤ i ∧ i ≤ Rr 72 1 + 4)) V u ∧ (f_r_comparison3 V J Rr) (a, u))) (w1 := (fun u : Nat → Nat → Int => XW cy ad u J Rr)) (a := 0) C hr rfl dX6_comparison_47 (by decide) V10 rfl ⟨hI10, ⟨by decide, by decide⟩, (Or.inl rfl), hB10, hF _ rfl⟩
    · replace hF := hF.to (if_neg hc6)
      refine x_aload_n C.1 dX6_comparison_23 1 rfl ?_
      refine x_iconst C.1 (n := 1) dX6_comparison_24 ?_
      refine x_callVi C (As := [vI 1]) (rest := []) 72 (xw_at (N := 129) (i := 72) (by decide) rfl) vc_X6 (r_fail l D cy ad G V1 J Rr hI1 hJ hR 1 ⟨by decide, by decide⟩) (l1 := []) (l2 := []) (List.append_nil _).symm (w2 := fun u : Nat → Nat → Int => XW cy ad u J Rr) (fun _ => List.append_nil _) rfl wm_yX6_fail wn_X6 wl_X6_58 wi_yX6_fail we_yX6_fail hd_yX6_fail rfl ⟨Nat.le_of_ble_eq_true rfl, Nat.le_of_ble_eq_true rfl⟩ (Nat.le_of_ble_eq_true rfl) ⟨Nat.le_of_ble_eq_true rfl, Nat.le_of_ble_eq_true rfl⟩ dX6_comparison_25 (fun z15 V15 bz15 h15 => ?_)
      obtain ⟨hI15, bq15, hx15_0, hBc15, hFc15⟩ := h15
      replace hF := calVX_i hF hFc15 hBc15
      replace hF := hF.fc bq15
      have hB15 := hB1.tr hBc15 (fun i k h => (Or.inl h))
      exact x_zret (S := (Nat → Nat → Int)) (post := (fun a (u : Nat → Nat → Int) => TI G u ∧ (0 ≤ a ∧ a ≤ 1) ∧ Sp a (u 72 4 = 3) ∧ FB (fun i k : Nat => (72 ≤ i ∧ i ≤ 72) ∨ (Rr 72 1 ≤ i ∧ i ≤ Rr 72 1 + 4)) V u ∧ (f_r_comparison3 V J Rr) (a, u))) (w1 := (fun u : Nat → Nat → Int => XW cy ad u J Rr)) (a := z15) C hr rfl dX6_comparison_28 (by omega) V15 rfl ⟨hI15, ⟨by omega, by omega⟩, (Sp.all (hx15_0.trans hon3) (by omega)), hB15, hF _ rfl⟩
  · replace hF := hF.to (if_neg (fun hh => hh hc2))
    refine x_iconst C.1 (n := 0) dX6_comparison_7 ?_
    exact x_zret (S := (Nat → Nat → Int)) (post := (fun a (u : Nat → Nat → Int) => TI G u ∧ (0 ≤ a ∧ a ≤ 1) ∧ Sp a (u 72 4 = 3) ∧ FB (fun i k : Nat => (72 ≤ i ∧ i ≤ 72) ∨ (Rr 72 1 ≤ i ∧ i ≤ Rr 72 1 + 4)) V u ∧ (f_r_comparison3 V J Rr) (a, u))) (w1 := (fun u : Nat → Nat → Int => XW cy ad u J Rr)) (a := 0) C hr rfl dX6_comparison_8 (by decide) V1 rfl ⟨hI1, ⟨by decide, by decide⟩, (Or.inl rfl), hB1, hF _ rfl⟩
set_option maxRecDepth 100000 in
def f_r_piece3 (V : Nat → Nat → Int) (J : Nat → Nat → Int) (Rr : Nat → Nat → Nat) : (Int × (Nat → Nat → Int)) → Prop :=
  calR (f_r_peek V J Rr) fun z1 => (if ¬ z1 = 40 then calR (f_r_peek V J Rr) fun z3 => (if z3 = 33 then calVX (fun i k : Nat => (72 ≤ i ∧ i ≤ 72)) V (f_r_enter3 V J Rr) fun z5 V5 => fct (0 ≤ z5 ∧ z5 ≤ 1) <| (if z5 = 0 then rtn (0, V5) else calVX (fun i k : Nat => (72 ≤ i ∧ i ≤ 72) ∨ (Rr 72 1 ≤ i ∧ i ≤ Rr 72 1 + 4)) V5 (f_r_piece4 V5 J Rr) fun z8 V8 => fct (0 ≤ z8 ∧ z8 ≤ 1) <| (if ¬ z8 = 0 then rdb (up2 V8 72 4 3) fun V11 => rdb (Rr 72 1) fun t12 => calUX (fun i k : Nat => (t12 ≤ i ∧ i ≤ t12 + 4)) V11 (f_r_put t12 10 0 V11 J Rr) fun V13 => rtn (1, V13) else rtn (0, V8))) else calVX (fun i k : Nat => (72 ≤ i ∧ i ≤ 72) ∨ (Rr 72 1 ≤ i ∧ i ≤ Rr 72 1 + 4)) V (f_r_comparison3 V J Rr) fun z14 V14 => fct (0 ≤ z14 ∧ z14 ≤ 1) <| rtn (z14, V14)) else calVX (fun i k : Nat => (72 ≤ i ∧ i ≤ 72) ∨ (Rr 72 1 ≤ i ∧ i ≤ Rr 72 1 + 4)) V (f_r_bracket3 41 V J Rr) fun z15 V15 => fct (0 ≤ z15 ∧ z15 ≤ 1) <| rtn (z15, V15))
set_option maxHeartbeats 8000000 in
set_option maxRecDepth 100000 in
theorem r_piece3 (l : Launch) (D : va_G) (cy : Nat → ClassId) (aK aV : Nat → Nat) (ad : Nat → Nat) (G : Nat → Nat → Int) (V J : Nat → Nat → Int) (Rr : Nat → Nat → Nat) (hI : TI G V) (hJ : VJ J) (hR : XR Rr) (hop : V 72 4 = 3) : zMiS l D (xTY cy) aK aV yX6_piece cX6_piece 1 (some .boolean) 32 693 0 0 [.ref (ad 72)] (XW cy ad V J Rr) (fun u : Nat → Nat → Int => XW cy ad u J Rr) (fun a (u : Nat → Nat → Int) => TI G u ∧ (0 ≤ a ∧ a ≤ 1) ∧ Sp a (u 72 4 = 3) ∧ FB (fun i k : Nat => (72 ≤ i ∧ i ≤ 72) ∨ (Rr 72 1 ≤ i ∧ i ≤ Rr 72 1 + 4)) V u ∧ (f_r_piece3 V J Rr) (a, u)) := by
  refine zMiS.mk (lv0 := [(0, .ref (ad 72))]) (by decide) rfl (Nat.le_of_ble_eq_true rfl) (fun p e s m below meth c A C hr hnm hAe hE => ?_)
  have C : xC2 p s m _ meth c D A s.heap 1 cX6_piece RX6 (xTY cy) := C
  have hB : FB (fun i k : Nat => (72 ≤ i ∧ i ≤ 72) ∨ (Rr 72 1 ≤ i ∧ i ≤ Rr 72 1 + 4)) V V := FB.rf _ _
  have hF := Imp.of_eq (f_r_piece3.eq_def V J Rr)
  refine x_aload_n C.1 dX6_piece_0 0 rfl ?_
  refine x_callVi C (As := []) (rest := []) 72 (xw_at (N := 129) (i := 72) (by decide) rfl) vc_X6 (r_peek l D cy ad G V J Rr hI hJ hR ) (l1 := []) (l2 := []) (List.append_nil _).symm (w2 := fun _ => XW cy ad V J Rr) (fun _ => List.append_nil _) rfl wm_yX6_peek wn_X6 wl_X6_54 wi_yX6_peek we_yX6_peek hd_yX6_peek rfl ⟨Nat.le_of_ble_eq_true rfl, Nat.le_of_ble_eq_true rfl⟩ (Nat.le_of_ble_eq_true rfl) ⟨Nat.le_of_ble_eq_true rfl, Nat.le_of_ble_eq_true rfl⟩ dX6_piece_1 (fun z1 u1 bz1 h1 => ?_)
  have hFc1 := h1
  replace hF := calR_i hF hFc1
  refine x_bipush C.1 (n := 40) dX6_piece_4 ?_
  refine x_icmp_ne C.1 (tgt := 16) dX6_piece_6 (by decide) (by omega) (by decide) (fun hc2 => ?_) (fun hc2 => ?_)
  · replace hF := hF.to (if_pos hc2)
    refine x_aload_n C.1 dX6_piece_16 0 rfl ?_
    refine x_callVi C (As := []) (rest := []) 72 (xw_at (N := 129) (i := 72) (by decide) rfl) vc_X6 (r_peek l D cy ad G V J Rr hI hJ hR ) (l1 := []) (l2 := []) (List.append_nil _).symm (w2 := fun _ => XW cy ad V J Rr) (fun _ => List.append_nil _) rfl wm_yX6_peek wn_X6 wl_X6_54 wi_yX6_peek we_yX6_peek hd_yX6_peek rfl ⟨Nat.le_of_ble_eq_true rfl, Nat.le_of_ble_eq_true rfl⟩ (Nat.le_of_ble_eq_true rfl) ⟨Nat.le_of_ble_eq_true rfl, Nat.le_of_ble_eq_true rfl⟩ dX6_piece_17 (fun z3 u3 bz3 h3 => ?_)
    have hFc3 := h3
    replace hF := calR_i hF hFc3
    refine x_bipush C.1 (n := 33) dX6_piece_20 ?_
    refine x_icmp_eq C.1 (tgt := 30) dX6_piece_22 (by decide) (by omega) (by decide) (fun hc4 => ?_) (fun hc4 => ?_)
    · replace hF := hF.to (if_pos hc4)
      refine x_aload_n C.1 dX6_piece_30 0 rfl ?_
      refine x_callVi C (As := []) (rest := []) 72 (xw_at (N := 129) (i := 72) (by decide) rfl) vc_X6 (r_enter3 l D cy ad G V J Rr hI hJ hR hop) (l1 := []) (l2 := []) (List.append_nil _).symm (w2 := fun u : Nat → Nat → Int => XW cy ad u J Rr) (fun _ => List.append_nil _) rfl wm_yX6_enter wn_X6 wl_X6_83 wi_yX6_enter we_yX6_enter hd_yX6_enter rfl ⟨Nat.le_of_ble_eq_true rfl, Nat.le_of_ble_eq_true rfl⟩ (Nat.le_of_ble_eq_true rfl) ⟨Nat.le_of_ble_eq_true rfl, Nat.le_of_ble_eq_true rfl⟩ dX6_piece_31 (fun z5 V5 bz5 h5 => ?_)
      obtain ⟨hI5, bq5, hx5_0, hBc5, hFc5⟩ := h5
      replace hF := calVX_i hF hFc5 hBc5
      replace hF := hF.fc bq5
      have hB5 := hB.tr hBc5 (fun i k h => (Or.inl h))
      refine x_if_eq C.1 (tgt := 44) dX6_piece_34 (by decide) (by omega) (fun hc6 => ?_) (fun hc6 => ?_)
      · replace hF := hF.to (if_pos hc6)
        refine x_iconst C.1 (n := 0) dX6_piece_44 ?_
        exact x_zret (S := (Nat → Nat → Int)) (post := (fun a (u : Nat → Nat → Int) => TI G u ∧ (0 ≤ a ∧ a ≤ 1) ∧ Sp a (u 72 4 = 3) ∧ FB (fun i k : Nat => (72 ≤ i ∧ i ≤ 72) ∨ (Rr 72 1 ≤ i ∧ i ≤ Rr 72 1 + 4)) V u ∧ (f_r_piece3 V J Rr) (a, u))) (w1 := (fun u : Nat → Nat → Int => XW cy ad u J Rr)) (a := 0) C hr rfl dX6_piece_45 (by decide) V5 rfl ⟨hI5, ⟨by decide, by decide⟩, (Or.inl rfl), hB5, hF _ rfl⟩
      · replace hF := hF.to (if_neg hc6)
        have hon7 := Sp.on hx5_0 (by omega)
        refine x_aload_n C.1 dX6_piece_37 0 rfl ?_
        refine x_callViS C hE (As := []) (rest := []) 72 (xw_at (N := 129) (i := 72) (by decide) rfl) vc_X6 (r_piece4 l D cy aK aV ad G V5 J Rr hI5 hJ hR hon7) (l1 := []) (l2 := []) (List.append_nil _).symm (w2 := fun u : Nat → Nat → Int => XW cy ad u J Rr) (fun _ => List.append_nil _) rfl wm_yX6_piece wn_X6 wl_X6_100 wi_yX6_piece we_yX6_piece hd_yX6_piece rfl ⟨Nat.le_of_ble_eq_true rfl, Nat.le_of_ble_eq_true rfl⟩ (Nat.le_of_ble_eq_true rfl) ⟨Nat.le_of_ble_eq_true rfl, Nat.le_of_ble_eq_true rfl⟩ dX6_piece_38 (fun z8 V8 bz8 h8 => ?_)
        obtain ⟨hI8, bq8, hx8_0, hBc8, hFc8⟩ := h8
        replace hF := calVX_i hF hFc8 hBc8
        replace hF := hF.fc bq8
        have hB8 := hB5.tr hBc8 (fun i k h => (h.elim (fun h => (Or.inl h)) (fun h => (Or.inr (h)))))
        refine x_if_ne C.1 (tgt := 46) dX6_piece_41 (by decide) (by omega) (fun hc9 => ?_) (fun hc9 => ?_)
        · replace hF := hF.to (if_pos hc9)
          have hon10 := Sp.on hx8_0 (by omega)
          refine x_aload_n C.1 dX6_piece_46 0 rfl ?_
          refine x_dup C.1 dX6_piece_47 rfl ?_
          refine x_getI C (N := 129) (i := 72) (by decide) rfl vc_X6 wx_X6 4 (by decide) wf_X6_29 rfl dX6_piece_48 (a := 4) hon10 ?_
          refine x_iconst C.1 (n := 1) dX6_piece_51 ?_
          refine x_isub C.1 (v := 3) (by decide) dX6_piece_52 ?_
          refine x_putI C (N := 129) (i := 72) (by decide) rfl vc_X6 wx_X6 4 (by decide) wf_X6_29 tyX6 tyX6_ok nmX6 rfl (tyX6_ok 4 (by decide)) rfl dX6_piece_53 rfl rfl ?_
          refine x_gV ?_
          intro V11 hV11
          have hI11 : TI G V11 := hI8.up hV11 rfl (by decide) rfl
          have hB11 := hB8.up hV11 (Or.inl (⟨by decide, by decide⟩))
          replace hF := hF.to (rdb_e (z := V11) hV11.symm)
          refine x_aload_n C.1 dX6_piece_56 0 rfl ?_
          obtain ⟨t12, et12, ht12⟩ := XR.into hR
          replace hF := hF.to (rdb_e (z := t12) et12)
          refine x_getR C (N := 129) (i := 72) (by decide) rfl vc_X6 wx_X6 1 (by decide) wf_X6_12 rfl dX6_piece_57 (a := t12) et12 ?_
          refine x_bipush C.1 (n := 10) dX6_piece_60 ?_
          refine x_iconst C.1 (n := 0) dX6_piece_62 ?_
          refine x_callVv C (As := [vI 10, vI 0]) (rest := []) t12 (xw_at (N := 129) (i := t12) (by omega) (xd_T ht12)) vc_X9 (r_put l D cy ad G V11 J Rr hI11 hJ hR t12 ht12 10 ⟨by decide, by decide⟩ 0 ⟨by decide, by decide⟩) (l1 := []) (l2 := []) (List.append_nil _).symm (w2 := fun u : Nat → Nat → Int => XW cy ad u J Rr) (fun _ => List.append_nil _) rfl wm_yX9_put wn_X9 wl_X6_106 wi_yX9_put we_yX9_put hd_yX9_put rfl ⟨Nat.le_of_ble_eq_true rfl, Nat.le_of_ble_eq_true rfl⟩ (Nat.le_of_ble_eq_true rfl) ⟨Nat.le_of_ble_eq_true rfl, Nat.le_of_ble_eq_true rfl⟩ dX6_piece_63 (fun V13 h13 => ?_)
          obtain ⟨hI13, hx13_0, hBc13, hFc13⟩ := h13
          replace hF := calUX_i hF hFc13 hBc13
          have hB13 := hB11.tr hBc13 (fun i k h => (Or.inr (⟨by omega, by omega⟩)))
          refine x_iconst C.1 (n := 1) dX6_piece_66 ?_
          exact x_zret (S := (Nat → Nat → Int)) (post := (fun a (u : Nat → Nat → Int) => TI G u ∧ (0 ≤ a ∧ a ≤ 1) ∧ Sp a (u 72 4 = 3) ∧ FB (fun i k : Nat => (72 ≤ i ∧ i ≤ 72) ∨ (Rr 72 1 ≤ i ∧ i ≤ Rr 72 1 + 4)) V u ∧ (f_r_piece3 V J Rr) (a, u))) (w1 := (fun u : Nat → Nat → Int => XW cy ad u J Rr)) (a := 1) C hr rfl dX6_piece_67 (by decide) V13 rfl ⟨hI13, ⟨by decide, by decide⟩, (Or.inr ⟨rfl, (hx13_0.trans ((congrFun (congrFun hV11 72) 4).trans (up2_s _ _ _ _)))⟩), hB13, hF _ rfl⟩
        · replace hF := hF.to (if_neg (fun hh => hh hc9))
          refine x_iconst C.1 (n := 0) dX6_piece_44 ?_
          exact x_zret (S := (Nat → Nat → Int)) (post := (fun a (u : Nat → Nat → Int) => TI G u ∧ (0 ≤ a ∧ a ≤ 1) ∧ Sp a (u 72 4 = 3) ∧ FB (fun i k : Nat => (72 ≤ i ∧ i ≤ 72) ∨ (Rr 72 1 ≤ i ∧ i ≤ Rr 72 1 + 4)) V u ∧ (f_r_piece3 V J Rr) (a, u))) (w1 := (fun u : Nat → Nat → Int => XW cy ad u J Rr)) (a := 0) C hr rfl dX6_piece_45 (by decide) V8 rfl ⟨hI8, ⟨by decide, by decide⟩, (Or.inl rfl), hB8, hF _ rfl⟩
    · replace hF := hF.to (if_neg hc4)
      refine x_aload_n C.1 dX6_piece_25 0 rfl ?_
      refine x_callViS C hE (As := []) (rest := []) 72 (xw_at (N := 129) (i := 72) (by decide) rfl) vc_X6 (r_comparison3 l D cy aK aV ad G V J Rr hI hJ hR hop) (l1 := []) (l2 := []) (List.append_nil _).symm (w2 := fun u : Nat → Nat → Int => XW cy ad u J Rr) (fun _ => List.append_nil _) rfl wm_yX6_comparison wn_X6 wl_X6_103 wi_yX6_comparison we_yX6_comparison hd_yX6_comparison rfl ⟨Nat.le_of_ble_eq_true rfl, Nat.le_of_ble_eq_true rfl⟩ (Nat.le_of_ble_eq_true rfl) ⟨Nat.le_of_ble_eq_true rfl, Nat.le_of_ble_eq_true rfl⟩ dX6_piece_26 (fun z14 V14 bz14 h14 => ?_)
      obtain ⟨hI14, bq14, hx14_0, hBc14, hFc14⟩ := h14
      replace hF := calVX_i hF hFc14 hBc14
      replace hF := hF.fc bq14
      have hB14 := hB.tr hBc14 (fun i k h => (h.elim (fun h => (Or.inl h)) (fun h => (Or.inr (h)))))
      exact x_zret (S := (Nat → Nat → Int)) (post := (fun a (u : Nat → Nat → Int) => TI G u ∧ (0 ≤ a ∧ a ≤ 1) ∧ Sp a (u 72 4 = 3) ∧ FB (fun i k : Nat => (72 ≤ i ∧ i ≤ 72) ∨ (Rr 72 1 ≤ i ∧ i ≤ Rr 72 1 + 4)) V u ∧ (f_r_piece3 V J Rr) (a, u))) (w1 := (fun u : Nat → Nat → Int => XW cy ad u J Rr)) (a := z14) C hr rfl dX6_piece_29 (by omega) V14 rfl ⟨hI14, ⟨by omega, by omega⟩, hx14_0, hB14, hF _ rfl⟩
  · replace hF := hF.to (if_neg (fun hh => hh hc2))
    refine x_aload_n C.1 dX6_piece_9 0 rfl ?_
    refine x_bipush C.1 (n := 41) dX6_piece_10 ?_
    refine x_callViS C hE (As := [vI 41]) (rest := []) 72 (xw_at (N := 129) (i := 72) (by decide) rfl) vc_X6 (r_bracket3 l D cy aK aV ad G V J Rr hI hJ hR 41 ⟨by decide, by decide⟩ hop) (l1 := []) (l2 := []) (List.append_nil _).symm (w2 := fun u : Nat → Nat → Int => XW cy ad u J Rr) (fun _ => List.append_nil _) rfl wm_yX6_bracket wn_X6 wl_X6_78 wi_yX6_bracket we_yX6_bracket hd_yX6_bracket rfl ⟨Nat.le_of_ble_eq_true rfl, Nat.le_of_ble_eq_true rfl⟩ (Nat.le_of_ble_eq_true rfl) ⟨Nat.le_of_ble_eq_true rfl, Nat.le_of_ble_eq_true rfl⟩ dX6_piece_12 (fun z15 V15 bz15 h15 => ?_)
    obtain ⟨hI15, bq15, hx15_0, hBc15, hFc15⟩ := h15
    replace hF := calVX_i hF hFc15 hBc15
    replace hF := hF.fc bq15
    have hB15 := hB.tr hBc15 (fun i k h => (h.elim (fun h => (Or.inl h)) (fun h => (Or.inr (h)))))
    exact x_zret (S := (Nat → Nat → Int)) (post := (fun a (u : Nat → Nat → Int) => TI G u ∧ (0 ≤ a ∧ a ≤ 1) ∧ Sp a (u 72 4 = 3) ∧ FB (fun i k : Nat => (72 ≤ i ∧ i ≤ 72) ∨ (Rr 72 1 ≤ i ∧ i ≤ Rr 72 1 + 4)) V u ∧ (f_r_piece3 V J Rr) (a, u))) (w1 := (fun u : Nat → Nat → Int => XW cy ad u J Rr)) (a := z15) C hr rfl dX6_piece_15 (by omega) V15 rfl ⟨hI15, ⟨by omega, by omega⟩, hx15_0, hB15, hF _ rfl⟩
set_option maxRecDepth 100000 in
def f_r_conditionPart3 (V : Nat → Nat → Int) (J : Nat → Nat → Int) (Rr : Nat → Nat → Nat) : (Int × (Nat → Nat → Int)) → Prop :=
  calVX (fun i k : Nat => (72 ≤ i ∧ i ≤ 72) ∨ (Rr 72 1 ≤ i ∧ i ≤ Rr 72 1 + 4)) V (f_r_piece3 V J Rr) fun z1 V1 => fct (0 ≤ z1 ∧ z1 ≤ 1) <| (if ¬ z1 = 0 then lop3 (202) (fun rc95 (z92 : Int) (z93 : Int) (V95 : Nat → Nat → Int) => (if 200 ≤ z92 then rdb (Rr 72 1) fun t112 => calUX (fun i k : Nat => (t112 ≤ i ∧ i ≤ t112 + 4)) V95 (f_r_land t112 z93 V95 J Rr) fun V113 => rtn (1, V113) else calR (f_r_peek V95 J Rr) fun z114 => (if ¬ z114 = 38 then rdb (Rr 72 1) fun t116 => calUX (fun i k : Nat => (t116 ≤ i ∧ i ≤ t116 + 4)) V95 (f_r_land t116 z93 V95 J Rr) fun V117 => rtn (1, V117) else rdb (V95 72 2) fun z118 => rdb (wr (z118 + 1)) fun z119 => rdb (up2 V95 72 2 z119) fun V120 => rdb (Rr 72 1) fun t121 => calVX (fun i k : Nat => (t121 ≤ i ∧ i ≤ t121 + 4)) V120 (f_r_jump t121 z93 11 V120 J Rr) fun z122 V122 => calVX (fun i k : Nat => (72 ≤ i ∧ i ≤ 72) ∨ (Rr 72 1 ≤ i ∧ i ≤ Rr 72 1 + 4)) V122 (f_r_piece3 V122 J Rr) fun z123 V123 => fct (0 ≤ z123 ∧ z123 ≤ 1) <| (if ¬ z123 = 0 then rc95 (z92 + 1) z122 V123 else rtn (0, V123))))) 0 ((-1)) V1 else rtn (0, V1))
set_option maxHeartbeats 8000000 in
set_option maxRecDepth 100000 in
theorem r_conditionPart3 (l : Launch) (D : va_G) (cy : Nat → ClassId) (aK aV : Nat → Nat) (ad : Nat → Nat) (G : Nat → Nat → Int) (V J : Nat → Nat → Int) (Rr : Nat → Nat → Nat) (hI : TI G V) (hJ : VJ J) (hR : XR Rr) (hop : V 72 4 = 3) : zMiS l D (xTY cy) aK aV yX6_conditionPart cX6_conditionPart 3 (some .boolean) 33 713 0 0 [.ref (ad 72)] (XW cy ad V J Rr) (fun u : Nat → Nat → Int => XW cy ad u J Rr) (fun a (u : Nat → Nat → Int) => TI G u ∧ (0 ≤ a ∧ a ≤ 1) ∧ Sp a (u 72 4 = 3) ∧ FB (fun i k : Nat => (72 ≤ i ∧ i ≤ 72) ∨ (Rr 72 1 ≤ i ∧ i ≤ Rr 72 1 + 4)) V u ∧ (f_r_conditionPart3 V J Rr) (a, u)) := by
  refine zMiS.mk (lv0 := [(0, .ref (ad 72))]) (by decide) rfl (Nat.le_of_ble_eq_true rfl) (fun p e s m below meth c A C hr hnm hAe hE => ?_)
  have C : xC2 p s m _ meth c D A s.heap 3 cX6_conditionPart RX6 (xTY cy) := C
  have hB : FB (fun i k : Nat => (72 ≤ i ∧ i ≤ 72) ∨ (Rr 72 1 ≤ i ∧ i ≤ Rr 72 1 + 4)) V V := FB.rf _ _
  have hF := Imp.of_eq (f_r_conditionPart3.eq_def V J Rr)
  refine x_aload_n C.1 dX6_conditionPart_0 0 rfl ?_
  refine x_callViS C hE (As := []) (rest := []) 72 (xw_at (N := 129) (i := 72) (by decide) rfl) vc_X6 (r_piece3 l D cy aK aV ad G V J Rr hI hJ hR hop) (l1 := []) (l2 := []) (List.append_nil _).symm (w2 := fun u : Nat → Nat → Int => XW cy ad u J Rr) (fun _ => List.append_nil _) rfl wm_yX6_piece wn_X6 wl_X6_100 wi_yX6_piece we_yX6_piece hd_yX6_piece rfl ⟨Nat.le_of_ble_eq_true rfl, Nat.le_of_ble_eq_true rfl⟩ (Nat.le_of_ble_eq_true rfl) ⟨Nat.le_of_ble_eq_true rfl, Nat.le_of_ble_eq_true rfl⟩ dX6_conditionPart_1 (fun z1 V1 bz1 h1 => ?_)
  obtain ⟨hI1, bq1, hx1_0, hBc1, hFc1⟩ := h1
  replace hF := calVX_i hF hFc1 hBc1
  replace hF := hF.fc bq1
  have hB1 := hB.tr hBc1 (fun i k h => (h.elim (fun h => (Or.inl h)) (fun h => (Or.inr (h)))))
  refine x_if_ne C.1 (tgt := 9) dX6_conditionPart_4 (by decide) (by omega) (fun hc2 => ?_) (fun hc2 => ?_)
  · replace hF := hF.to (if_pos hc2)
    have hon3 := Sp.on hx1_0 (by omega)
    refine x_iconst C.1 (n := -1) dX6_conditionPart_9 ?_
    refine x_istore_n C.1 (lv' := [(1, vI (-1)), (0, .ref (ad 72))]) dX6_conditionPart_10 (by decide) rfl ?_
    refine x_iconst C.1 (n := 0) dX6_conditionPart_11 ?_
    refine x_istore_n C.1 (lv' := [(2, vI 0), (1, vI (-1)), (0, .ref (ad 72))]) dX6_conditionPart_12 (by decide) rfl ?_
    obtain ⟨bd95, hbd95, hF⟩ := lop3_ex hF
    refine x_loop (I := fun x : Int × Int × (Nat → Nat → Int) => match x with | (z92, z93, V95) => (0 ≤ z92 ∧ z92 ≤ 200) ∧ (-2147483648 ≤ z93 ∧ z93 ≤ 2147483647) ∧ TI G V95 ∧ FB (fun i k : Nat => (72 ≤ i ∧ i ≤ 72) ∨ (Rr 72 1 ≤ i ∧ i ≤ Rr 72 1 + 4)) V V95 ∧ V95 72 4 = 3 ∧ (∃ nf : Nat, (201 - z92).toNat < nf ∧ Imp (lop3 nf bd95 z92 z93 V95) (f_r_conditionPart3 V J Rr))) (μ := fun x : Int × Int × (Nat → Nat → Int) => match x with | (z92, z93, V95) => (201 - z92).toNat) (wsf := fun x : Int × Int × (Nat → Nat → Int) => match x with | (z92, z93, V95) => XW cy ad V95 J Rr) (lvf := fun x : Int × Int × (Nat → Nat → Int) => match x with | (z92, z93, V95) => [(2, vI z92), (1, vI z93), (0, .ref (ad 72))]) (fun x hI95x ih95 => ?_) (0, (-1), V1) ⟨⟨by decide, by decide⟩, ⟨by decide, by decide⟩, hI1, hB1, hon3, ⟨_, (by omega), hF⟩⟩ rfl rfl
    obtain ⟨z92, z93, V95⟩ := x
    obtain ⟨bz92, bz93, hI95, hB95, hk94_0, nf95, hn95, hF⟩ := hI95x
    try dsimp only
    obtain ⟨nf95, rfl⟩ : ∃ mm, nf95 = mm + 1 := ⟨nf95 - 1, (Nat.succ_pred_eq_of_pos (Nat.lt_of_le_of_lt (Nat.zero_le _) hn95)).symm⟩
    replace hF := hF.to (lop3_s hbd95)
    refine x_iload_n C.1 dX6_conditionPart_13 0 rfl ?_
    refine x_sipush C.1 (n := 200) dX6_conditionPart_14 ?_
    refine x_icmp_ge C.1 (tgt := 65) dX6_conditionPart_17 (by decide) (by omega) (by decide) (fun hc111 => ?_) (fun hc111 => ?_)
    · replace hF := hF.to (if_pos hc111)
      refine x_aload_n C.1 dX6_conditionPart_65 2 rfl ?_
      obtain ⟨t112, et112, ht112⟩ := XR.into hR
      replace hF := hF.to (rdb_e (z := t112) et112)
      refine x_getR C (N := 129) (i := 72) (by decide) rfl vc_X6 wx_X6 1 (by decide) wf_X6_12 rfl dX6_conditionPart_66 (a := t112) et112 ?_
      refine x_iload_n C.1 dX6_conditionPart_69 1 rfl ?_
      refine x_callVv C (As := [vI z93]) (rest := []) t112 (xw_at (N := 129) (i := t112) (by omega) (xd_T ht112)) vc_X9 (r_land l D cy ad G V95 J Rr hI95 hJ hR t112 ht112 z93 ⟨by omega, by omega⟩) (l1 := []) (l2 := []) (List.append_nil _).symm (w2 := fun u : Nat → Nat → Int => XW cy ad u J Rr) (fun _ => List.append_nil _) rfl wm_yX9_land wn_X9 wl_X6_96 wi_yX9_land we_yX9_land hd_yX9_land rfl ⟨Nat.le_of_ble_eq_true rfl, Nat.le_of_ble_eq_true rfl⟩ (Nat.le_of_ble_eq_true rfl) ⟨Nat.le_of_ble_eq_true rfl, Nat.le_of_ble_eq_true rfl⟩ dX6_conditionPart_70 (fun V113 h113 => ?_)
      obtain ⟨hI113, hx113_0, hBc113, hFc113⟩ := h113
      replace hF := calUX_i hF hFc113 hBc113
      have hB113 := hB95.tr hBc113 (fun i k h => (Or.inr (⟨by omega, by omega⟩)))
      refine x_iconst C.1 (n := 1) dX6_conditionPart_73 ?_
      exact x_zret (S := (Nat → Nat → Int)) (post := (fun a (u : Nat → Nat → Int) => TI G u ∧ (0 ≤ a ∧ a ≤ 1) ∧ Sp a (u 72 4 = 3) ∧ FB (fun i k : Nat => (72 ≤ i ∧ i ≤ 72) ∨ (Rr 72 1 ≤ i ∧ i ≤ Rr 72 1 + 4)) V u ∧ (f_r_conditionPart3 V J Rr) (a, u))) (w1 := (fun u : Nat → Nat → Int => XW cy ad u J Rr)) (a := 1) C hr rfl dX6_conditionPart_74 (by decide) V113 rfl ⟨hI113, ⟨by decide, by decide⟩, (Or.inr ⟨rfl, (hx113_0.trans hk94_0)⟩), hB113, hF _ rfl⟩
    · replace hF := hF.to (if_neg hc111)
      refine x_aload_n C.1 dX6_conditionPart_20 2 rfl ?_
      refine x_callVi C (As := []) (rest := []) 72 (xw_at (N := 129) (i := 72) (by decide) rfl) vc_X6 (r_peek l D cy ad G V95 J Rr hI95 hJ hR ) (l1 := []) (l2 := []) (List.append_nil _).symm (w2 := fun _ => XW cy ad V95 J Rr) (fun _ => List.append_nil _) rfl wm_yX6_peek wn_X6 wl_X6_54 wi_yX6_peek we_yX6_peek hd_yX6_peek rfl ⟨Nat.le_of_ble_eq_true rfl, Nat.le_of_ble_eq_true rfl⟩ (Nat.le_of_ble_eq_true rfl) ⟨Nat.le_of_ble_eq_true rfl, Nat.le_of_ble_eq_true rfl⟩ dX6_conditionPart_21 (fun z114 u114 bz114 h114 => ?_)
      have hFc114 := h114
      replace hF := calR_i hF hFc114
      refine x_bipush C.1 (n := 38) dX6_conditionPart_24 ?_
      refine x_icmp_ne C.1 (tgt := 65) dX6_conditionPart_26 (by decide) (by omega) (by decide) (fun hc115 => ?_) (fun hc115 => ?_)
      · replace hF := hF.to (if_pos hc115)
        refine x_aload_n C.1 dX6_conditionPart_65 2 rfl ?_
        obtain ⟨t116, et116, ht116⟩ := XR.into hR
        replace hF := hF.to (rdb_e (z := t116) et116)
        refine x_getR C (N := 129) (i := 72) (by decide) rfl vc_X6 wx_X6 1 (by decide) wf_X6_12 rfl dX6_conditionPart_66 (a := t116) et116 ?_
        refine x_iload_n C.1 dX6_conditionPart_69 1 rfl ?_
        refine x_callVv C (As := [vI z93]) (rest := []) t116 (xw_at (N := 129) (i := t116) (by omega) (xd_T ht116)) vc_X9 (r_land l D cy ad G V95 J Rr hI95 hJ hR t116 ht116 z93 ⟨by omega, by omega⟩) (l1 := []) (l2 := []) (List.append_nil _).symm (w2 := fun u : Nat → Nat → Int => XW cy ad u J Rr) (fun _ => List.append_nil _) rfl wm_yX9_land wn_X9 wl_X6_96 wi_yX9_land we_yX9_land hd_yX9_land rfl ⟨Nat.le_of_ble_eq_true rfl, Nat.le_of_ble_eq_true rfl⟩ (Nat.le_of_ble_eq_true rfl) ⟨Nat.le_of_ble_eq_true rfl, Nat.le_of_ble_eq_true rfl⟩ dX6_conditionPart_70 (fun V117 h117 => ?_)
        obtain ⟨hI117, hx117_0, hBc117, hFc117⟩ := h117
        replace hF := calUX_i hF hFc117 hBc117
        have hB117 := hB95.tr hBc117 (fun i k h => (Or.inr (⟨by omega, by omega⟩)))
        refine x_iconst C.1 (n := 1) dX6_conditionPart_73 ?_
        exact x_zret (S := (Nat → Nat → Int)) (post := (fun a (u : Nat → Nat → Int) => TI G u ∧ (0 ≤ a ∧ a ≤ 1) ∧ Sp a (u 72 4 = 3) ∧ FB (fun i k : Nat => (72 ≤ i ∧ i ≤ 72) ∨ (Rr 72 1 ≤ i ∧ i ≤ Rr 72 1 + 4)) V u ∧ (f_r_conditionPart3 V J Rr) (a, u))) (w1 := (fun u : Nat → Nat → Int => XW cy ad u J Rr)) (a := 1) C hr rfl dX6_conditionPart_74 (by decide) V117 rfl ⟨hI117, ⟨by decide, by decide⟩, (Or.inr ⟨rfl, (hx117_0.trans hk94_0)⟩), hB117, hF _ rfl⟩
      · replace hF := hF.to (if_neg (fun hh => hh hc115))
        refine x_aload_n C.1 dX6_conditionPart_29 2 rfl ?_
        refine x_dup C.1 dX6_conditionPart_30 rfl ?_
        obtain ⟨z118, ez118, bz118⟩ := hI95.rd 72 2 (x := -2147483648) (y := 2147483647) rfl
        replace hF := hF.to (rdb_e (z := z118) ez118)
        refine x_getI C (N := 129) (i := 72) (by decide) rfl vc_X6 wx_X6 2 (by decide) wf_X6_22 rfl dX6_conditionPart_31 (a := z118) ez118 ?_
        refine x_iconst C.1 (n := 1) dX6_conditionPart_34 ?_
        refine x_iadd C.1 (v := z118 + 1) (by omega) dX6_conditionPart_35 ?_
        refine x_wrapg ?_
        intro z119 bz119 ew119
        replace hF := hF.to (rdb_e (z := z119) ew119.symm)
        refine x_putI C (N := 129) (i := 72) (by decide) rfl vc_X6 wx_X6 2 (by decide) wf_X6_22 tyX6 tyX6_ok nmX6 rfl (tyX6_ok 2 (by decide)) rfl dX6_conditionPart_36 rfl rfl ?_
        refine x_gV ?_
        intro V120 hV120
        have hI120 : TI G V120 := hI95.up hV120 rfl (by omega) rfl
        have hB120 := hB95.up hV120 (Or.inl (⟨by decide, by decide⟩))
        replace hF := hF.to (rdb_e (z := V120) hV120.symm)
        refine x_aload_n C.1 dX6_conditionPart_39 2 rfl ?_
        obtain ⟨t121, et121, ht121⟩ := XR.into hR
        replace hF := hF.to (rdb_e (z := t121) et121)
        refine x_getR C (N := 129) (i := 72) (by decide) rfl vc_X6 wx_X6 1 (by decide) wf_X6_12 rfl dX6_conditionPart_40 (a := t121) et121 ?_
        refine x_iload_n C.1 dX6_conditionPart_43 1 rfl ?_
        refine x_bipush C.1 (n := 11) dX6_conditionPart_44 ?_
        refine x_callVi C (As := [vI z93, vI 11]) (rest := []) t121 (xw_at (N := 129) (i := t121) (by omega) (xd_T ht121)) vc_X9 (r_jump l D cy ad G V120 J Rr hI120 hJ hR t121 ht121 z93 ⟨by omega, by omega⟩ 11 ⟨by decide, by decide⟩) (l1 := []) (l2 := []) (List.append_nil _).symm (w2 := fun u : Nat → Nat → Int => XW cy ad u J Rr) (fun _ => List.append_nil _) rfl wm_yX9_jump wn_X9 wl_X6_92 wi_yX9_jump we_yX9_jump hd_yX9_jump rfl ⟨Nat.le_of_ble_eq_true rfl, Nat.le_of_ble_eq_true rfl⟩ (Nat.le_of_ble_eq_true rfl) ⟨Nat.le_of_ble_eq_true rfl, Nat.le_of_ble_eq_true rfl⟩ dX6_conditionPart_46 (fun z122 V122 bz122 h122 => ?_)
        obtain ⟨hI122, hx122_0, hBc122, hFc122⟩ := h122
        replace hF := calVX_i hF hFc122 hBc122
        have hB122 := hB120.tr hBc122 (fun i k h => (Or.inr (⟨by omega, by omega⟩)))
        refine x_istore_n C.1 (lv' := [(1, vI z122), (2, vI z92), (0, .ref (ad 72))]) dX6_conditionPart_49 (by decide) rfl ?_
        refine x_aload_n C.1 dX6_conditionPart_50 2 rfl ?_
        refine x_callViS C hE (As := []) (rest := []) 72 (xw_at (N := 129) (i := 72) (by decide) rfl) vc_X6 (r_piece3 l D cy aK aV ad G V122 J Rr hI122 hJ hR (hx122_0.trans ((congrFun (congrFun hV120 72) 4).trans ((up2_n _ _ (Or.inr (by decide))).trans hk94_0)))) (l1 := []) (l2 := []) (List.append_nil _).symm (w2 := fun u : Nat → Nat → Int => XW cy ad u J Rr) (fun _ => List.append_nil _) rfl wm_yX6_piece wn_X6 wl_X6_100 wi_yX6_piece we_yX6_piece hd_yX6_piece rfl ⟨Nat.le_of_ble_eq_true rfl, Nat.le_of_ble_eq_true rfl⟩ (Nat.le_of_ble_eq_true rfl) ⟨Nat.le_of_ble_eq_true rfl, Nat.le_of_ble_eq_true rfl⟩ dX6_conditionPart_51 (fun z123 V123 bz123 h123 => ?_)
        obtain ⟨hI123, bq123, hx123_0, hBc123, hFc123⟩ := h123
        replace hF := calVX_i hF hFc123 hBc123
        replace hF := hF.fc bq123
        have hB123 := hB122.tr hBc123 (fun i k h => (h.elim (fun h => (Or.inl h)) (fun h => (Or.inr (h)))))
        refine x_if_ne C.1 (tgt := 59) dX6_conditionPart_54 (by decide) (by omega) (fun hc124 => ?_) (fun hc124 => ?_)
        · replace hF := hF.to (if_pos hc124)
          have hon125 := Sp.on hx123_0 (by omega)
          refine x_iinc C.1 (v := z92 + 1) (lv' := [(2, vI (z92 + 1)), (1, vI z122), (0, .ref (ad 72))]) (by omega) dX6_conditionPart_59 1 rfl (by decide) rfl ?_
          refine x_goto C.1 (tgt := 13) dX6_conditionPart_62 (by decide) ?_
          have hmu95 : (201 - (z92 + 1)).toNat < (201 - z92).toNat := (by omega)
          exact ih95 (z92 + 1, z122, V123) ⟨⟨by omega, by omega⟩, ⟨by omega, by omega⟩, hI123, hB123, hon125, ⟨nf95, Nat.lt_of_lt_of_le hmu95 (Nat.le_of_lt_succ hn95), hF⟩⟩ hmu95
        · replace hF := hF.to (if_neg (fun hh => hh hc124))
          refine x_iconst C.1 (n := 0) dX6_conditionPart_57 ?_
          exact x_zret (S := (Nat → Nat → Int)) (post := (fun a (u : Nat → Nat → Int) => TI G u ∧ (0 ≤ a ∧ a ≤ 1) ∧ Sp a (u 72 4 = 3) ∧ FB (fun i k : Nat => (72 ≤ i ∧ i ≤ 72) ∨ (Rr 72 1 ≤ i ∧ i ≤ Rr 72 1 + 4)) V u ∧ (f_r_conditionPart3 V J Rr) (a, u))) (w1 := (fun u : Nat → Nat → Int => XW cy ad u J Rr)) (a := 0) C hr rfl dX6_conditionPart_58 (by decide) V123 rfl ⟨hI123, ⟨by decide, by decide⟩, (Or.inl rfl), hB123, hF _ rfl⟩
  · replace hF := hF.to (if_neg (fun hh => hh hc2))
    refine x_iconst C.1 (n := 0) dX6_conditionPart_7 ?_
    exact x_zret (S := (Nat → Nat → Int)) (post := (fun a (u : Nat → Nat → Int) => TI G u ∧ (0 ≤ a ∧ a ≤ 1) ∧ Sp a (u 72 4 = 3) ∧ FB (fun i k : Nat => (72 ≤ i ∧ i ≤ 72) ∨ (Rr 72 1 ≤ i ∧ i ≤ Rr 72 1 + 4)) V u ∧ (f_r_conditionPart3 V J Rr) (a, u))) (w1 := (fun u : Nat → Nat → Int => XW cy ad u J Rr)) (a := 0) C hr rfl dX6_conditionPart_8 (by decide) V1 rfl ⟨hI1, ⟨by decide, by decide⟩, (Or.inl rfl), hB1, hF _ rfl⟩
set_option maxRecDepth 100000 in
def f_r_condition3 (V : Nat → Nat → Int) (J : Nat → Nat → Int) (Rr : Nat → Nat → Nat) : (Int × (Nat → Nat → Int)) → Prop :=
  calVX (fun i k : Nat => (72 ≤ i ∧ i ≤ 72) ∨ (Rr 72 1 ≤ i ∧ i ≤ Rr 72 1 + 4)) V (f_r_conditionPart3 V J Rr) fun z1 V1 => fct (0 ≤ z1 ∧ z1 ≤ 1) <| (if ¬ z1 = 0 then lop3 (202) (fun rc95 (z92 : Int) (z93 : Int) (V95 : Nat → Nat → Int) => (if 200 ≤ z92 then rdb (Rr 72 1) fun t112 => calUX (fun i k : Nat => (t112 ≤ i ∧ i ≤ t112 + 4)) V95 (f_r_land t112 z93 V95 J Rr) fun V113 => rtn (1, V113) else calR (f_r_peek V95 J Rr) fun z114 => (if ¬ z114 = 124 then rdb (Rr 72 1) fun t116 => calUX (fun i k : Nat => (t116 ≤ i ∧ i ≤ t116 + 4)) V95 (f_r_land t116 z93 V95 J Rr) fun V117 => rtn (1, V117) else rdb (V95 72 2) fun z118 => rdb (wr (z118 + 1)) fun z119 => rdb (up2 V95 72 2 z119) fun V120 => rdb (Rr 72 1) fun t121 => calVX (fun i k : Nat => (t121 ≤ i ∧ i ≤ t121 + 4)) V120 (f_r_jump t121 z93 12 V120 J Rr) fun z122 V122 => calVX (fun i k : Nat => (72 ≤ i ∧ i ≤ 72) ∨ (Rr 72 1 ≤ i ∧ i ≤ Rr 72 1 + 4)) V122 (f_r_conditionPart3 V122 J Rr) fun z123 V123 => fct (0 ≤ z123 ∧ z123 ≤ 1) <| (if ¬ z123 = 0 then rc95 (z92 + 1) z122 V123 else rtn (0, V123))))) 0 ((-1)) V1 else rtn (0, V1))
set_option maxHeartbeats 8000000 in
set_option maxRecDepth 100000 in
theorem r_condition3 (l : Launch) (D : va_G) (cy : Nat → ClassId) (aK aV : Nat → Nat) (ad : Nat → Nat) (G : Nat → Nat → Int) (V J : Nat → Nat → Int) (Rr : Nat → Nat → Nat) (hI : TI G V) (hJ : VJ J) (hR : XR Rr) (hop : V 72 4 = 3) : zMiS l D (xTY cy) aK aV yX6_condition cX6_condition 3 (some .boolean) 34 735 0 0 [.ref (ad 72)] (XW cy ad V J Rr) (fun u : Nat → Nat → Int => XW cy ad u J Rr) (fun a (u : Nat → Nat → Int) => TI G u ∧ (0 ≤ a ∧ a ≤ 1) ∧ Sp a (u 72 4 = 3) ∧ FB (fun i k : Nat => (72 ≤ i ∧ i ≤ 72) ∨ (Rr 72 1 ≤ i ∧ i ≤ Rr 72 1 + 4)) V u ∧ (f_r_condition3 V J Rr) (a, u)) := by
  refine zMiS.mk (lv0 := [(0, .ref (ad 72))]) (by decide) rfl (Nat.le_of_ble_eq_true rfl) (fun p e s m below meth c A C hr hnm hAe hE => ?_)
  have C : xC2 p s m _ meth c D A s.heap 3 cX6_condition RX6 (xTY cy) := C
  have hB : FB (fun i k : Nat => (72 ≤ i ∧ i ≤ 72) ∨ (Rr 72 1 ≤ i ∧ i ≤ Rr 72 1 + 4)) V V := FB.rf _ _
  have hF := Imp.of_eq (f_r_condition3.eq_def V J Rr)
  refine x_aload_n C.1 dX6_condition_0 0 rfl ?_
  refine x_callViS C hE (As := []) (rest := []) 72 (xw_at (N := 129) (i := 72) (by decide) rfl) vc_X6 (r_conditionPart3 l D cy aK aV ad G V J Rr hI hJ hR hop) (l1 := []) (l2 := []) (List.append_nil _).symm (w2 := fun u : Nat → Nat → Int => XW cy ad u J Rr) (fun _ => List.append_nil _) rfl wm_yX6_conditionPart wn_X6 wl_X6_89 wi_yX6_conditionPart we_yX6_conditionPart hd_yX6_conditionPart rfl ⟨Nat.le_of_ble_eq_true rfl, Nat.le_of_ble_eq_true rfl⟩ (Nat.le_of_ble_eq_true rfl) ⟨Nat.le_of_ble_eq_true rfl, Nat.le_of_ble_eq_true rfl⟩ dX6_condition_1 (fun z1 V1 bz1 h1 => ?_)
  obtain ⟨hI1, bq1, hx1_0, hBc1, hFc1⟩ := h1
  replace hF := calVX_i hF hFc1 hBc1
  replace hF := hF.fc bq1
  have hB1 := hB.tr hBc1 (fun i k h => (h.elim (fun h => (Or.inl h)) (fun h => (Or.inr (h)))))
  refine x_if_ne C.1 (tgt := 9) dX6_condition_4 (by decide) (by omega) (fun hc2 => ?_) (fun hc2 => ?_)
  · replace hF := hF.to (if_pos hc2)
    have hon3 := Sp.on hx1_0 (by omega)
    refine x_iconst C.1 (n := -1) dX6_condition_9 ?_
    refine x_istore_n C.1 (lv' := [(1, vI (-1)), (0, .ref (ad 72))]) dX6_condition_10 (by decide) rfl ?_
    refine x_iconst C.1 (n := 0) dX6_condition_11 ?_
    refine x_istore_n C.1 (lv' := [(2, vI 0), (1, vI (-1)), (0, .ref (ad 72))]) dX6_condition_12 (by decide) rfl ?_
    obtain ⟨bd95, hbd95, hF⟩ := lop3_ex hF
    refine x_loop (I := fun x : Int × Int × (Nat → Nat → Int) => match x with | (z92, z93, V95) => (0 ≤ z92 ∧ z92 ≤ 200) ∧ (-2147483648 ≤ z93 ∧ z93 ≤ 2147483647) ∧ TI G V95 ∧ FB (fun i k : Nat => (72 ≤ i ∧ i ≤ 72) ∨ (Rr 72 1 ≤ i ∧ i ≤ Rr 72 1 + 4)) V V95 ∧ V95 72 4 = 3 ∧ (∃ nf : Nat, (201 - z92).toNat < nf ∧ Imp (lop3 nf bd95 z92 z93 V95) (f_r_condition3 V J Rr))) (μ := fun x : Int × Int × (Nat → Nat → Int) => match x with | (z92, z93, V95) => (201 - z92).toNat) (wsf := fun x : Int × Int × (Nat → Nat → Int) => match x with | (z92, z93, V95) => XW cy ad V95 J Rr) (lvf := fun x : Int × Int × (Nat → Nat → Int) => match x with | (z92, z93, V95) => [(2, vI z92), (1, vI z93), (0, .ref (ad 72))]) (fun x hI95x ih95 => ?_) (0, (-1), V1) ⟨⟨by decide, by decide⟩, ⟨by decide, by decide⟩, hI1, hB1, hon3, ⟨_, (by omega), hF⟩⟩ rfl rfl
    obtain ⟨z92, z93, V95⟩ := x
    obtain ⟨bz92, bz93, hI95, hB95, hk94_0, nf95, hn95, hF⟩ := hI95x
    try dsimp only
    obtain ⟨nf95, rfl⟩ : ∃ mm, nf95 = mm + 1 := ⟨nf95 - 1, (Nat.succ_pred_eq_of_pos (Nat.lt_of_le_of_lt (Nat.zero_le _) hn95)).symm⟩
    replace hF := hF.to (lop3_s hbd95)
    refine x_iload_n C.1 dX6_condition_13 0 rfl ?_
    refine x_sipush C.1 (n := 200) dX6_condition_14 ?_
    refine x_icmp_ge C.1 (tgt := 65) dX6_condition_17 (by decide) (by omega) (by decide) (fun hc111 => ?_) (fun hc111 => ?_)
    · replace hF := hF.to (if_pos hc111)
      refine x_aload_n C.1 dX6_condition_65 2 rfl ?_
      obtain ⟨t112, et112, ht112⟩ := XR.into hR
      replace hF := hF.to (rdb_e (z := t112) et112)
      refine x_getR C (N := 129) (i := 72) (by decide) rfl vc_X6 wx_X6 1 (by decide) wf_X6_12 rfl dX6_condition_66 (a := t112) et112 ?_
      refine x_iload_n C.1 dX6_condition_69 1 rfl ?_
      refine x_callVv C (As := [vI z93]) (rest := []) t112 (xw_at (N := 129) (i := t112) (by omega) (xd_T ht112)) vc_X9 (r_land l D cy ad G V95 J Rr hI95 hJ hR t112 ht112 z93 ⟨by omega, by omega⟩) (l1 := []) (l2 := []) (List.append_nil _).symm (w2 := fun u : Nat → Nat → Int => XW cy ad u J Rr) (fun _ => List.append_nil _) rfl wm_yX9_land wn_X9 wl_X6_96 wi_yX9_land we_yX9_land hd_yX9_land rfl ⟨Nat.le_of_ble_eq_true rfl, Nat.le_of_ble_eq_true rfl⟩ (Nat.le_of_ble_eq_true rfl) ⟨Nat.le_of_ble_eq_true rfl, Nat.le_of_ble_eq_true rfl⟩ dX6_condition_70 (fun V113 h113 => ?_)
      obtain ⟨hI113, hx113_0, hBc113, hFc113⟩ := h113
      replace hF := calUX_i hF hFc113 hBc113
      have hB113 := hB95.tr hBc113 (fun i k h => (Or.inr (⟨by omega, by omega⟩)))
      refine x_iconst C.1 (n := 1) dX6_condition_73 ?_
      exact x_zret (S := (Nat → Nat → Int)) (post := (fun a (u : Nat → Nat → Int) => TI G u ∧ (0 ≤ a ∧ a ≤ 1) ∧ Sp a (u 72 4 = 3) ∧ FB (fun i k : Nat => (72 ≤ i ∧ i ≤ 72) ∨ (Rr 72 1 ≤ i ∧ i ≤ Rr 72 1 + 4)) V u ∧ (f_r_condition3 V J Rr) (a, u))) (w1 := (fun u : Nat → Nat → Int => XW cy ad u J Rr)) (a := 1) C hr rfl dX6_condition_74 (by decide) V113 rfl ⟨hI113, ⟨by decide, by decide⟩, (Or.inr ⟨rfl, (hx113_0.trans hk94_0)⟩), hB113, hF _ rfl⟩
    · replace hF := hF.to (if_neg hc111)
      refine x_aload_n C.1 dX6_condition_20 2 rfl ?_
      refine x_callVi C (As := []) (rest := []) 72 (xw_at (N := 129) (i := 72) (by decide) rfl) vc_X6 (r_peek l D cy ad G V95 J Rr hI95 hJ hR ) (l1 := []) (l2 := []) (List.append_nil _).symm (w2 := fun _ => XW cy ad V95 J Rr) (fun _ => List.append_nil _) rfl wm_yX6_peek wn_X6 wl_X6_54 wi_yX6_peek we_yX6_peek hd_yX6_peek rfl ⟨Nat.le_of_ble_eq_true rfl, Nat.le_of_ble_eq_true rfl⟩ (Nat.le_of_ble_eq_true rfl) ⟨Nat.le_of_ble_eq_true rfl, Nat.le_of_ble_eq_true rfl⟩ dX6_condition_21 (fun z114 u114 bz114 h114 => ?_)
      have hFc114 := h114
      replace hF := calR_i hF hFc114
      refine x_bipush C.1 (n := 124) dX6_condition_24 ?_
      refine x_icmp_ne C.1 (tgt := 65) dX6_condition_26 (by decide) (by omega) (by decide) (fun hc115 => ?_) (fun hc115 => ?_)
      · replace hF := hF.to (if_pos hc115)
        refine x_aload_n C.1 dX6_condition_65 2 rfl ?_
        obtain ⟨t116, et116, ht116⟩ := XR.into hR
        replace hF := hF.to (rdb_e (z := t116) et116)
        refine x_getR C (N := 129) (i := 72) (by decide) rfl vc_X6 wx_X6 1 (by decide) wf_X6_12 rfl dX6_condition_66 (a := t116) et116 ?_
        refine x_iload_n C.1 dX6_condition_69 1 rfl ?_
        refine x_callVv C (As := [vI z93]) (rest := []) t116 (xw_at (N := 129) (i := t116) (by omega) (xd_T ht116)) vc_X9 (r_land l D cy ad G V95 J Rr hI95 hJ hR t116 ht116 z93 ⟨by omega, by omega⟩) (l1 := []) (l2 := []) (List.append_nil _).symm (w2 := fun u : Nat → Nat → Int => XW cy ad u J Rr) (fun _ => List.append_nil _) rfl wm_yX9_land wn_X9 wl_X6_96 wi_yX9_land we_yX9_land hd_yX9_land rfl ⟨Nat.le_of_ble_eq_true rfl, Nat.le_of_ble_eq_true rfl⟩ (Nat.le_of_ble_eq_true rfl) ⟨Nat.le_of_ble_eq_true rfl, Nat.le_of_ble_eq_true rfl⟩ dX6_condition_70 (fun V117 h117 => ?_)
        obtain ⟨hI117, hx117_0, hBc117, hFc117⟩ := h117
        replace hF := calUX_i hF hFc117 hBc117
        have hB117 := hB95.tr hBc117 (fun i k h => (Or.inr (⟨by omega, by omega⟩)))
        refine x_iconst C.1 (n := 1) dX6_condition_73 ?_
        exact x_zret (S := (Nat → Nat → Int)) (post := (fun a (u : Nat → Nat → Int) => TI G u ∧ (0 ≤ a ∧ a ≤ 1) ∧ Sp a (u 72 4 = 3) ∧ FB (fun i k : Nat => (72 ≤ i ∧ i ≤ 72) ∨ (Rr 72 1 ≤ i ∧ i ≤ Rr 72 1 + 4)) V u ∧ (f_r_condition3 V J Rr) (a, u))) (w1 := (fun u : Nat → Nat → Int => XW cy ad u J Rr)) (a := 1) C hr rfl dX6_condition_74 (by decide) V117 rfl ⟨hI117, ⟨by decide, by decide⟩, (Or.inr ⟨rfl, (hx117_0.trans hk94_0)⟩), hB117, hF _ rfl⟩
      · replace hF := hF.to (if_neg (fun hh => hh hc115))
        refine x_aload_n C.1 dX6_condition_29 2 rfl ?_
        refine x_dup C.1 dX6_condition_30 rfl ?_
        obtain ⟨z118, ez118, bz118⟩ := hI95.rd 72 2 (x := -2147483648) (y := 2147483647) rfl
        replace hF := hF.to (rdb_e (z := z118) ez118)
        refine x_getI C (N := 129) (i := 72) (by decide) rfl vc_X6 wx_X6 2 (by decide) wf_X6_22 rfl dX6_condition_31 (a := z118) ez118 ?_
        refine x_iconst C.1 (n := 1) dX6_condition_34 ?_
        refine x_iadd C.1 (v := z118 + 1) (by omega) dX6_condition_35 ?_
        refine x_wrapg ?_
        intro z119 bz119 ew119
        replace hF := hF.to (rdb_e (z := z119) ew119.symm)
        refine x_putI C (N := 129) (i := 72) (by decide) rfl vc_X6 wx_X6 2 (by decide) wf_X6_22 tyX6 tyX6_ok nmX6 rfl (tyX6_ok 2 (by decide)) rfl dX6_condition_36 rfl rfl ?_
        refine x_gV ?_
        intro V120 hV120
        have hI120 : TI G V120 := hI95.up hV120 rfl (by omega) rfl
        have hB120 := hB95.up hV120 (Or.inl (⟨by decide, by decide⟩))
        replace hF := hF.to (rdb_e (z := V120) hV120.symm)
        refine x_aload_n C.1 dX6_condition_39 2 rfl ?_
        obtain ⟨t121, et121, ht121⟩ := XR.into hR
        replace hF := hF.to (rdb_e (z := t121) et121)
        refine x_getR C (N := 129) (i := 72) (by decide) rfl vc_X6 wx_X6 1 (by decide) wf_X6_12 rfl dX6_condition_40 (a := t121) et121 ?_
        refine x_iload_n C.1 dX6_condition_43 1 rfl ?_
        refine x_bipush C.1 (n := 12) dX6_condition_44 ?_
        refine x_callVi C (As := [vI z93, vI 12]) (rest := []) t121 (xw_at (N := 129) (i := t121) (by omega) (xd_T ht121)) vc_X9 (r_jump l D cy ad G V120 J Rr hI120 hJ hR t121 ht121 z93 ⟨by omega, by omega⟩ 12 ⟨by decide, by decide⟩) (l1 := []) (l2 := []) (List.append_nil _).symm (w2 := fun u : Nat → Nat → Int => XW cy ad u J Rr) (fun _ => List.append_nil _) rfl wm_yX9_jump wn_X9 wl_X6_92 wi_yX9_jump we_yX9_jump hd_yX9_jump rfl ⟨Nat.le_of_ble_eq_true rfl, Nat.le_of_ble_eq_true rfl⟩ (Nat.le_of_ble_eq_true rfl) ⟨Nat.le_of_ble_eq_true rfl, Nat.le_of_ble_eq_true rfl⟩ dX6_condition_46 (fun z122 V122 bz122 h122 => ?_)
        obtain ⟨hI122, hx122_0, hBc122, hFc122⟩ := h122
        replace hF := calVX_i hF hFc122 hBc122
        have hB122 := hB120.tr hBc122 (fun i k h => (Or.inr (⟨by omega, by omega⟩)))
        refine x_istore_n C.1 (lv' := [(1, vI z122), (2, vI z92), (0, .ref (ad 72))]) dX6_condition_49 (by decide) rfl ?_
        refine x_aload_n C.1 dX6_condition_50 2 rfl ?_
        refine x_callViS C hE (As := []) (rest := []) 72 (xw_at (N := 129) (i := 72) (by decide) rfl) vc_X6 (r_conditionPart3 l D cy aK aV ad G V122 J Rr hI122 hJ hR (hx122_0.trans ((congrFun (congrFun hV120 72) 4).trans ((up2_n _ _ (Or.inr (by decide))).trans hk94_0)))) (l1 := []) (l2 := []) (List.append_nil _).symm (w2 := fun u : Nat → Nat → Int => XW cy ad u J Rr) (fun _ => List.append_nil _) rfl wm_yX6_conditionPart wn_X6 wl_X6_89 wi_yX6_conditionPart we_yX6_conditionPart hd_yX6_conditionPart rfl ⟨Nat.le_of_ble_eq_true rfl, Nat.le_of_ble_eq_true rfl⟩ (Nat.le_of_ble_eq_true rfl) ⟨Nat.le_of_ble_eq_true rfl, Nat.le_of_ble_eq_true rfl⟩ dX6_condition_51 (fun z123 V123 bz123 h123 => ?_)
        obtain ⟨hI123, bq123, hx123_0, hBc123, hFc123⟩ := h123
        replace hF := calVX_i hF hFc123 hBc123
        replace hF := hF.fc bq123
        have hB123 := hB122.tr hBc123 (fun i k h => (h.elim (fun h => (Or.inl h)) (fun h => (Or.inr (h)))))
        refine x_if_ne C.1 (tgt := 59) dX6_condition_54 (by decide) (by omega) (fun hc124 => ?_) (fun hc124 => ?_)
        · replace hF := hF.to (if_pos hc124)
          have hon125 := Sp.on hx123_0 (by omega)
          refine x_iinc C.1 (v := z92 + 1) (lv' := [(2, vI (z92 + 1)), (1, vI z122), (0, .ref (ad 72))]) (by omega) dX6_condition_59 1 rfl (by decide) rfl ?_
          refine x_goto C.1 (tgt := 13) dX6_condition_62 (by decide) ?_
          have hmu95 : (201 - (z92 + 1)).toNat < (201 - z92).toNat := (by omega)
          exact ih95 (z92 + 1, z122, V123) ⟨⟨by omega, by omega⟩, ⟨by omega, by omega⟩, hI123, hB123, hon125, ⟨nf95, Nat.lt_of_lt_of_le hmu95 (Nat.le_of_lt_succ hn95), hF⟩⟩ hmu95
        · replace hF := hF.to (if_neg (fun hh => hh hc124))
          refine x_iconst C.1 (n := 0) dX6_condition_57 ?_
          exact x_zret (S := (Nat → Nat → Int)) (post := (fun a (u : Nat → Nat → Int) => TI G u ∧ (0 ≤ a ∧ a ≤ 1) ∧ Sp a (u 72 4 = 3) ∧ FB (fun i k : Nat => (72 ≤ i ∧ i ≤ 72) ∨ (Rr 72 1 ≤ i ∧ i ≤ Rr 72 1 + 4)) V u ∧ (f_r_condition3 V J Rr) (a, u))) (w1 := (fun u : Nat → Nat → Int => XW cy ad u J Rr)) (a := 0) C hr rfl dX6_condition_58 (by decide) V123 rfl ⟨hI123, ⟨by decide, by decide⟩, (Or.inl rfl), hB123, hF _ rfl⟩
  · replace hF := hF.to (if_neg (fun hh => hh hc2))
    refine x_iconst C.1 (n := 0) dX6_condition_7 ?_
    exact x_zret (S := (Nat → Nat → Int)) (post := (fun a (u : Nat → Nat → Int) => TI G u ∧ (0 ≤ a ∧ a ≤ 1) ∧ Sp a (u 72 4 = 3) ∧ FB (fun i k : Nat => (72 ≤ i ∧ i ≤ 72) ∨ (Rr 72 1 ≤ i ∧ i ≤ Rr 72 1 + 4)) V u ∧ (f_r_condition3 V J Rr) (a, u))) (w1 := (fun u : Nat → Nat → Int => XW cy ad u J Rr)) (a := 0) C hr rfl dX6_condition_8 (by decide) V1 rfl ⟨hI1, ⟨by decide, by decide⟩, (Or.inl rfl), hB1, hF _ rfl⟩
