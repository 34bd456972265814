abbrev NPl (V : Nat → Nat → Int) (b : Nat) : Prop := ∀ q, q < 4 → V (b + 3 + 2 * q) 0 = 0
abbrev NPe (V : Nat → Nat → Int) (b : Nat) : Prop := ∀ q, q < 8 → V (b + 11 + 1 * q) 0 = 0
theorem dX3_isPerson_0 : decode cX3_isPerson 0 = .ok (.iload_n 1, 1) := by decide +kernel
theorem dX3_isPerson_1 : decode cX3_isPerson 1 = .ok (.bipush 8, 2) := by decide +kernel
theorem dX3_isPerson_3 : decode cX3_isPerson 3 = .ok (.invokestatic 55, 3) := by decide +kernel
theorem dX3_isPerson_6 : decode cX3_isPerson 6 = .ok (.ifCond .eq 19, 3) := by decide +kernel
theorem dX3_isPerson_9 : decode cX3_isPerson 9 = .ok (.aload_n 0, 1) := by decide +kernel
theorem dX3_isPerson_10 : decode cX3_isPerson 10 = .ok (.getfield 19, 3) := by decide +kernel
theorem dX3_isPerson_13 : decode cX3_isPerson 13 = .ok (.iload_n 1, 1) := by decide +kernel
theorem dX3_isPerson_14 : decode cX3_isPerson 14 = .ok (.aaload, 1) := by decide +kernel
theorem dX3_isPerson_15 : decode cX3_isPerson 15 = .ok (.getfield 42, 3) := by decide +kernel
theorem dX3_isPerson_18 : decode cX3_isPerson 18 = .ok (.ifCond .eq 7, 3) := by decide +kernel
theorem dX3_isPerson_21 : decode cX3_isPerson 21 = .ok (.iconst 1, 1) := by decide +kernel
theorem dX3_isPerson_22 : decode cX3_isPerson 22 = .ok (.goto 4, 3) := by decide +kernel
theorem dX3_isPerson_25 : decode cX3_isPerson 25 = .ok (.iconst 0, 1) := by decide +kernel
theorem dX3_isPerson_26 : decode cX3_isPerson 26 = .ok (.ireturn, 1) := by decide +kernel
set_option maxHeartbeats 4000000 in
set_option maxRecDepth 100000 in
theorem c_isPerson (l : Launch) (D : va_G) (cy : Nat → ClassId) (ad : Nat → Nat) (V J : Nat → Nat → Int) (Rr : Nat → Nat → Nat) (hV : VR V) (hJ : VJ J) (b : Nat) (hb : isLa b) (x : Int) (hx : R32 x) : xMi l D (xTY cy) yX3_isPerson cX3_isPerson 2 (some .boolean) 1 21 0 0 [.ref (ad b), vI x] (XW cy ad V J Rr) (fun _ : Unit => XW cy ad V J Rr) (fun r _ => (r = 1 ∧ 0 ≤ x ∧ x < 8 ∧ V (b + 11 + 1 * x.toNat) 0 ≠ 0) ∨ (r = 0 ∧ ¬ (0 ≤ x ∧ x < 8 ∧ V (b + 11 + 1 * x.toNat) 0 ≠ 0))) := by
  refine xMi.mk (lv0 := [(0, .ref (ad b)), (1, vI x)]) (by decide) rfl (Nat.le_of_ble_eq_true rfl) (fun p e s m below meth c A C hr hnm hAe => ?_)
  have C : xC2 p s m _ meth c D A s.heap 2 cX3_isPerson RX3 (xTY cy) := C
  refine x_iload_n C.1 dX3_isPerson_0 1 rfl ?_
  refine x_bipush C.1 (n := 8) dX3_isPerson_1 ?_
  refine x_callSNi C (As := [vI x, vI 8]) (rest := []) (c_isPlace l D cy x 8 hx (by decide)) (l1 := []) (l2 := _) rfl (w2 := fun _ => _) (fun _ => rfl) rfl wm_yX11_isPlace wn_X11 (host := RX11) nst_X3_55 wi_yX11_isPlace hd_yX11_isPlace rfl ⟨Nat.le_of_ble_eq_true rfl, Nat.le_of_ble_eq_true rfl⟩ (Nat.le_of_ble_eq_true rfl) ⟨Nat.le_of_ble_eq_true rfl, Nat.le_of_ble_eq_true rfl⟩ dX3_isPerson_3 (fun r1 u1 hr1 h1 => ?_)
  rcases h1 with ⟨rfl, t1, t1b⟩ | ⟨rfl, t1⟩
  · refine x_if_eq_f C.1 (tgt := 25) dX3_isPerson_6 (by decide) (by decide) (by decide) ?_
    refine x_aload_n C.1 dX3_isPerson_9 0 rfl ?_
    refine x_getA C (N := 129) (i := b) (by omega) (xd_L hb) vc_X3 wx_X3 1 (by decide) wf_X3_19 (a := b + 2) rfl dX3_isPerson_10 ?_
    refine x_iload_n C.1 dX3_isPerson_13 1 rfl ?_
    refine x_aldS C (N := 129) (i := b + 2) (q := x) (t := 5) rfl (by omega) (xd_Lb hb) (by omega) (by decide) dX3_isPerson_14 (a := b + 11 + 1 * x.toNat) rfl ?_
    refine x_getI C (N := 129) (i := b + 11 + 1 * x.toNat) (isPe_L hb (q := x.toNat) (by omega)).1 (isPe_L hb (q := x.toNat) (by omega)).2 vc_X4 wx_X4 0 (by decide) wf_X3_42 rfl dX3_isPerson_15 (a := V (b + 11 + 1 * x.toNat) 0) rfl ?_
    refine x_if_eq C.1 (tgt := 25) dX3_isPerson_18 (by decide) (hV _ _) (fun c18_2 => ?_) (fun c18_2 => ?_)
    · refine x_iconst C.1 (n := 0) dX3_isPerson_25 ?_
      exact x_zret (S := Unit) (post := fun r _ => (r = 1 ∧ 0 ≤ x ∧ x < 8 ∧ V (b + 11 + 1 * x.toNat) 0 ≠ 0) ∨ (r = 0 ∧ ¬ (0 ≤ x ∧ x < 8 ∧ V (b + 11 + 1 * x.toNat) 0 ≠ 0))) (w1 := fun _ : Unit => XW cy ad V J Rr) (a := 0) C hr rfl dX3_isPerson_26 (by decide) () rfl (by omega)
    · refine x_iconst C.1 (n := 1) dX3_isPerson_21 ?_
      refine x_goto C.1 (tgt := 26) dX3_isPerson_22 (by decide) ?_
      exact x_zret (S := Unit) (post := fun r _ => (r = 1 ∧ 0 ≤ x ∧ x < 8 ∧ V (b + 11 + 1 * x.toNat) 0 ≠ 0) ∨ (r = 0 ∧ ¬ (0 ≤ x ∧ x < 8 ∧ V (b + 11 + 1 * x.toNat) 0 ≠ 0))) (w1 := fun _ : Unit => XW cy ad V J Rr) (a := 1) C hr rfl dX3_isPerson_26 (by decide) () rfl (by omega)
  · refine x_if_eq_t C.1 (tgt := 25) dX3_isPerson_6 (by decide) (by decide) (by decide) ?_
    refine x_iconst C.1 (n := 0) dX3_isPerson_25 ?_
    exact x_zret (S := Unit) (post := fun r _ => (r = 1 ∧ 0 ≤ x ∧ x < 8 ∧ V (b + 11 + 1 * x.toNat) 0 ≠ 0) ∨ (r = 0 ∧ ¬ (0 ≤ x ∧ x < 8 ∧ V (b + 11 + 1 * x.toNat) 0 ≠ 0))) (w1 := fun _ : Unit => XW cy ad V J Rr) (a := 0) C hr rfl dX3_isPerson_26 (by decide) () rfl (by omega)
theorem hd_yX3_isPlant : yX3_isPlant.cls ≠ "java/lang/invoke/MethodHandle" ∧ yX3_isPlant.cls ≠ "java/lang/invoke/VarHandle" ∧ (parseMethodDescriptor yX3_isPlant.desc).map (fun d => d.parameters.length) = some 1 := by decide +kernel
theorem dX3_isAlive_0 : decode cX3_isAlive 0 = .ok (.aload_n 0, 1) := by decide +kernel
theorem dX3_isAlive_1 : decode cX3_isAlive 1 = .ok (.iload_n 1, 1) := by decide +kernel
theorem dX3_isAlive_2 : decode cX3_isAlive 2 = .ok (.invokevirtual 60, 3) := by decide +kernel
theorem dX3_isAlive_5 : decode cX3_isAlive 5 = .ok (.ifCond .eq 19, 3) := by decide +kernel
theorem dX3_isAlive_24 : decode cX3_isAlive 24 = .ok (.iconst 0, 1) := by decide +kernel
theorem dX3_isAlive_25 : decode cX3_isAlive 25 = .ok (.ireturn, 1) := by decide +kernel
set_option maxHeartbeats 4000000 in
set_option maxRecDepth 100000 in
theorem c_isAlive0 (l : Launch) (D : va_G) (cy : Nat → ClassId) (ad : Nat → Nat) (V J : Nat → Nat → Int) (Rr : Nat → Nat → Nat) (hV : VR V) (hJ : VJ J) (b : Nat) (hb : isLa b) (x : Int) (hx : R32 x) (hnp : NPl V b) : xMi l D (xTY cy) yX3_isAlive cX3_isAlive 2 (some .boolean) 2 42 0 0 [.ref (ad b), vI x] (XW cy ad V J Rr) (fun _ : Unit => XW cy ad V J Rr) (fun r _ => r = 0) := by
  refine xMi.mk (lv0 := [(0, .ref (ad b)), (1, vI x)]) (by decide) rfl (Nat.le_of_ble_eq_true rfl) (fun p e s m below meth c A C hr hnm hAe => ?_)
  have C : xC2 p s m _ meth c D A s.heap 2 cX3_isAlive RX3 (xTY cy) := C
  refine x_aload_n C.1 dX3_isAlive_0 0 rfl ?_
  refine x_iload_n C.1 dX3_isAlive_1 1 rfl ?_
  refine x_callVi C (As := [vI x]) (rest := []) b (xw_at (N := 129) (i := b) (by omega) (xd_L hb)) vc_X3 (c_isPlant l D cy ad V J Rr hV hJ b hb x hx) (l1 := []) (l2 := []) (List.append_nil _).symm (w2 := fun _ => XW cy ad V J Rr) (fun _ => List.append_nil _) rfl wm_yX3_isPlant wn_X3 wl_X3_60 wi_yX3_isPlant we_yX3_isPlant hd_yX3_isPlant rfl ⟨Nat.le_of_ble_eq_true rfl, Nat.le_of_ble_eq_true rfl⟩ (Nat.le_of_ble_eq_true rfl) ⟨Nat.le_of_ble_eq_true rfl, Nat.le_of_ble_eq_true rfl⟩ dX3_isAlive_2 (fun r1 u1 hr1 h1 => ?_)
  rcases h1 with ⟨rfl, t1, t1b, t1c⟩ | ⟨rfl, t1⟩
  · exact absurd (hnp _ (by omega)) t1c
  · refine x_if_eq_t C.1 (tgt := 24) dX3_isAlive_5 (by decide) (by decide) (by decide) ?_
    refine x_iconst C.1 (n := 0) dX3_isAlive_24 ?_
    exact x_zret (S := Unit) (post := fun r _ => r = 0) (w1 := fun _ : Unit => XW cy ad V J Rr) (a := 0) C hr rfl dX3_isAlive_25 (by decide) () rfl (by omega)
theorem hd_yX3_isAlive : yX3_isAlive.cls ≠ "java/lang/invoke/MethodHandle" ∧ yX3_isAlive.cls ≠ "java/lang/invoke/VarHandle" ∧ (parseMethodDescriptor yX3_isAlive.desc).map (fun d => d.parameters.length) = some 1 := by decide +kernel
theorem dX11_canReckon_0 : decode cX11_canReckon 0 = .ok (.aload_n 0, 1) := by decide +kernel
theorem dX11_canReckon_1 : decode cX11_canReckon 1 = .ok (.getfield 10, 3) := by decide +kernel
theorem dX11_canReckon_4 : decode cX11_canReckon 4 = .ok (.iload_n 1, 1) := by decide +kernel
theorem dX11_canReckon_5 : decode cX11_canReckon 5 = .ok (.invokevirtual 103, 3) := by decide +kernel
theorem dX11_canReckon_8 : decode cX11_canReckon 8 = .ok (.ifCond .eq 35, 3) := by decide +kernel
theorem dX11_canReckon_43 : decode cX11_canReckon 43 = .ok (.iconst 0, 1) := by decide +kernel
theorem dX11_canReckon_44 : decode cX11_canReckon 44 = .ok (.ireturn, 1) := by decide +kernel
set_option maxHeartbeats 4000000 in
set_option maxRecDepth 100000 in
theorem f_canReckon (l : Launch) (D : va_G) (cy : Nat → ClassId) (ad : Nat → Nat) (V J : Nat → Nat → Int) (Rr : Nat → Nat → Nat) (hV : VR V) (hJ : VJ J) (x1 x2 x3 : Int) (hx1 : R32 x1) (hx2 : R32 x2) (hx3 : R32 x3) (hnp : NPl V 1) (hne : NPe V 1) (htl : V 58 1 = 0) : xMi l D (xTY cy) yX11_canReckon cX11_canReckon 4 (some .boolean) 3 63 0 0 [.ref (ad 0), vI x1, vI x2, vI x3] (XW cy ad V J Rr) (fun _ : Unit => XW cy ad V J Rr) (fun r _ => r = 0) := by
  refine xMi.mk (lv0 := [(0, .ref (ad 0)), (1, vI x1), (2, vI x2), (3, vI x3)]) (by decide) rfl (Nat.le_of_ble_eq_true rfl) (fun p e s m below meth c A C hr hnm hAe => ?_)
  have C : xC2 p s m _ meth c D A s.heap 4 cX11_canReckon RX11 (xTY cy) := C
  refine x_aload_n C.1 dX11_canReckon_0 0 rfl ?_
  refine x_getA C (N := 129) (i := 0) (by decide) rfl vc_X11 wx_X11 0 (by decide) wf_X11_10 (a := 1) rfl dX11_canReckon_1 ?_
  refine x_iload_n C.1 dX11_canReckon_4 1 rfl ?_
  refine x_callVi C (As := [vI x1]) (rest := []) 1 (xw_at (N := 129) (i := 1) (by omega) (xd_L (Or.inl rfl))) vc_X3 (c_isAlive0 l D cy ad V J Rr hV hJ 1 (Or.inl rfl) x1 hx1 hnp) (l1 := []) (l2 := []) (List.append_nil _).symm (w2 := fun _ => XW cy ad V J Rr) (fun _ => List.append_nil _) rfl wm_yX3_isAlive wn_X3 wl_X11_103 wi_yX3_isAlive we_yX3_isAlive hd_yX3_isAlive rfl ⟨Nat.le_of_ble_eq_true rfl, Nat.le_of_ble_eq_true rfl⟩ (Nat.le_of_ble_eq_true rfl) ⟨Nat.le_of_ble_eq_true rfl, Nat.le_of_ble_eq_true rfl⟩ dX11_canReckon_5 (fun r1 u1 hr1 h1 => ?_)
  obtain rfl := h1
  refine x_if_eq_t C.1 (tgt := 43) dX11_canReckon_8 (by decide) (by decide) (by decide) ?_
  refine x_iconst C.1 (n := 0) dX11_canReckon_43 ?_
  exact x_zret (S := Unit) (post := fun r _ => r = 0) (w1 := fun _ : Unit => XW cy ad V J Rr) (a := 0) C hr rfl dX11_canReckon_44 (by decide) () rfl (by omega)
theorem hd_yX3_isPerson : yX3_isPerson.cls ≠ "java/lang/invoke/MethodHandle" ∧ yX3_isPerson.cls ≠ "java/lang/invoke/VarHandle" ∧ (parseMethodDescriptor yX3_isPerson.desc).map (fun d => d.parameters.length) = some 1 := by decide +kernel
theorem dX11_card_0 : decode cX11_card 0 = .ok (.aload_n 0, 1) := by decide +kernel
theorem dX11_card_1 : decode cX11_card 1 = .ok (.getfield 10, 3) := by decide +kernel
theorem dX11_card_4 : decode cX11_card 4 = .ok (.iload_n 1, 1) := by decide +kernel
theorem dX11_card_5 : decode cX11_card 5 = .ok (.invokevirtual 91, 3) := by decide +kernel
theorem dX11_card_8 : decode cX11_card 8 = .ok (.ifCond .eq 19, 3) := by decide +kernel
theorem dX11_card_27 : decode cX11_card 27 = .ok (.iconst 0, 1) := by decide +kernel
theorem dX11_card_28 : decode cX11_card 28 = .ok (.ireturn, 1) := by decide +kernel
set_option maxHeartbeats 4000000 in
set_option maxRecDepth 100000 in
theorem f_card (l : Launch) (D : va_G) (cy : Nat → ClassId) (ad : Nat → Nat) (V J : Nat → Nat → Int) (Rr : Nat → Nat → Nat) (hV : VR V) (hJ : VJ J) (x1 x2 : Int) (hx1 : R32 x1) (hx2 : R32 x2) (hnp : NPl V 1) (hne : NPe V 1) (htl : V 58 1 = 0) : xMi l D (xTY cy) yX11_card cX11_card 3 (some .boolean) 2 42 0 0 [.ref (ad 0), vI x1, vI x2] (XW cy ad V J Rr) (fun _ : Unit => XW cy ad V J Rr) (fun r _ => r = 0) := by
  refine xMi.mk (lv0 := [(0, .ref (ad 0)), (1, vI x1), (2, vI x2)]) (by decide) rfl (Nat.le_of_ble_eq_true rfl) (fun p e s m below meth c A C hr hnm hAe => ?_)
  have C : xC2 p s m _ meth c D A s.heap 3 cX11_card RX11 (xTY cy) := C
  refine x_aload_n C.1 dX11_card_0 0 rfl ?_
  refine x_getA C (N := 129) (i := 0) (by decide) rfl vc_X11 wx_X11 0 (by decide) wf_X11_10 (a := 1) rfl dX11_card_1 ?_
  refine x_iload_n C.1 dX11_card_4 1 rfl ?_
  refine x_callVi C (As := [vI x1]) (rest := []) 1 (xw_at (N := 129) (i := 1) (by omega) (xd_L (Or.inl rfl))) vc_X3 (c_isPlant l D cy ad V J Rr hV hJ 1 (Or.inl rfl) x1 hx1) (l1 := []) (l2 := []) (List.append_nil _).symm (w2 := fun _ => XW cy ad V J Rr) (fun _ => List.append_nil _) rfl wm_yX3_isPlant wn_X3 wl_X11_91 wi_yX3_isPlant we_yX3_isPlant hd_yX3_isPlant rfl ⟨Nat.le_of_ble_eq_true rfl, Nat.le_of_ble_eq_true rfl⟩ (Nat.le_of_ble_eq_true rfl) ⟨Nat.le_of_ble_eq_true rfl, Nat.le_of_ble_eq_true rfl⟩ dX11_card_5 (fun r1 u1 hr1 h1 => ?_)
  rcases h1 with ⟨rfl, t1, t1b, t1c⟩ | ⟨rfl, t1⟩
  · exact absurd (hnp _ (by omega)) t1c
  · refine x_if_eq_t C.1 (tgt := 27) dX11_card_8 (by decide) (by decide) (by decide) ?_
    refine x_iconst C.1 (n := 0) dX11_card_27 ?_
    exact x_zret (S := Unit) (post := fun r _ => r = 0) (w1 := fun _ : Unit => XW cy ad V J Rr) (a := 0) C hr rfl dX11_card_28 (by decide) () rfl (by omega)
theorem dX11_pour_0 : decode cX11_pour 0 = .ok (.aload_n 0, 1) := by decide +kernel
theorem dX11_pour_1 : decode cX11_pour 1 = .ok (.getfield 10, 3) := by decide +kernel
theorem dX11_pour_4 : decode cX11_pour 4 = .ok (.iload_n 1, 1) := by decide +kernel
theorem dX11_pour_5 : decode cX11_pour 5 = .ok (.invokevirtual 103, 3) := by decide +kernel
theorem dX11_pour_8 : decode cX11_pour 8 = .ok (.ifCond .eq 13, 3) := by decide +kernel
theorem dX11_pour_21 : decode cX11_pour 21 = .ok (.iconst (-1), 1) := by decide +kernel
theorem dX11_pour_22 : decode cX11_pour 22 = .ok (.ireturn, 1) := by decide +kernel
set_option maxHeartbeats 4000000 in
set_option maxRecDepth 100000 in
theorem f_pour (l : Launch) (D : va_G) (cy : Nat → ClassId) (ad : Nat → Nat) (V J : Nat → Nat → Int) (Rr : Nat → Nat → Nat) (hV : VR V) (hJ : VJ J) (x1 x2 : Int) (hx1 : R32 x1) (hx2 : R32 x2) (hnp : NPl V 1) (hne : NPe V 1) (htl : V 58 1 = 0) : xMi l D (xTY cy) yX11_pour cX11_pour 3 (some .int) 3 63 0 0 [.ref (ad 0), vI x1, vI x2] (XW cy ad V J Rr) (fun _ : Unit => XW cy ad V J Rr) (fun r _ => r = -1) := by
  refine xMi.mk (lv0 := [(0, .ref (ad 0)), (1, vI x1), (2, vI x2)]) (by decide) rfl (Nat.le_of_ble_eq_true rfl) (fun p e s m below meth c A C hr hnm hAe => ?_)
  have C : xC2 p s m _ meth c D A s.heap 3 cX11_pour RX11 (xTY cy) := C
  refine x_aload_n C.1 dX11_pour_0 0 rfl ?_
  refine x_getA C (N := 129) (i := 0) (by decide) rfl vc_X11 wx_X11 0 (by decide) wf_X11_10 (a := 1) rfl dX11_pour_1 ?_
  refine x_iload_n C.1 dX11_pour_4 1 rfl ?_
  refine x_callVi C (As := [vI x1]) (rest := []) 1 (xw_at (N := 129) (i := 1) (by omega) (xd_L (Or.inl rfl))) vc_X3 (c_isAlive0 l D cy ad V J Rr hV hJ 1 (Or.inl rfl) x1 hx1 hnp) (l1 := []) (l2 := []) (List.append_nil _).symm (w2 := fun _ => XW cy ad V J Rr) (fun _ => List.append_nil _) rfl wm_yX3_isAlive wn_X3 wl_X11_103 wi_yX3_isAlive we_yX3_isAlive hd_yX3_isAlive rfl ⟨Nat.le_of_ble_eq_true rfl, Nat.le_of_ble_eq_true rfl⟩ (Nat.le_of_ble_eq_true rfl) ⟨Nat.le_of_ble_eq_true rfl, Nat.le_of_ble_eq_true rfl⟩ dX11_pour_5 (fun r1 u1 hr1 h1 => ?_)
  obtain rfl := h1
  refine x_if_eq_t C.1 (tgt := 21) dX11_pour_8 (by decide) (by decide) (by decide) ?_
  refine x_iconst C.1 (n := -1) dX11_pour_21 ?_
  exact x_iret (S := Unit) (post := fun r _ => r = -1) (w1 := fun _ : Unit => XW cy ad V J Rr) (a := (-1)) C hr rfl dX11_pour_22 (by decide) () rfl (by omega)
theorem dX11_plantIs_0 : decode cX11_plantIs 0 = .ok (.aload_n 0, 1) := by decide +kernel
theorem dX11_plantIs_1 : decode cX11_plantIs 1 = .ok (.getfield 10, 3) := by decide +kernel
theorem dX11_plantIs_4 : decode cX11_plantIs 4 = .ok (.iload_n 1, 1) := by decide +kernel
theorem dX11_plantIs_5 : decode cX11_plantIs 5 = .ok (.invokevirtual 91, 3) := by decide +kernel
theorem dX11_plantIs_8 : decode cX11_plantIs 8 = .ok (.ifCond .ne 5, 3) := by decide +kernel
theorem dX11_plantIs_11 : decode cX11_plantIs 11 = .ok (.iconst (-1), 1) := by decide +kernel
theorem dX11_plantIs_12 : decode cX11_plantIs 12 = .ok (.ireturn, 1) := by decide +kernel
set_option maxHeartbeats 4000000 in
set_option maxRecDepth 100000 in
theorem f_plantIs (l : Launch) (D : va_G) (cy : Nat → ClassId) (ad : Nat → Nat) (V J : Nat → Nat → Int) (Rr : Nat → Nat → Nat) (hV : VR V) (hJ : VJ J) (x1 x2 : Int) (hx1 : R32 x1) (hx2 : R32 x2) (hnp : NPl V 1) (hne : NPe V 1) (htl : V 58 1 = 0) : xMi l D (xTY cy) yX11_plantIs cX11_plantIs 4 (some .int) 2 42 0 0 [.ref (ad 0), vI x1, vI x2] (XW cy ad V J Rr) (fun _ : Unit => XW cy ad V J Rr) (fun r _ => r = -1) := by
  refine xMi.mk (lv0 := [(0, .ref (ad 0)), (1, vI x1), (2, vI x2)]) (by decide) rfl (Nat.le_of_ble_eq_true rfl) (fun p e s m below meth c A C hr hnm hAe => ?_)
  have C : xC2 p s m _ meth c D A s.heap 4 cX11_plantIs RX11 (xTY cy) := C
  refine x_aload_n C.1 dX11_plantIs_0 0 rfl ?_
  refine x_getA C (N := 129) (i := 0) (by decide) rfl vc_X11 wx_X11 0 (by decide) wf_X11_10 (a := 1) rfl dX11_plantIs_1 ?_
  refine x_iload_n C.1 dX11_plantIs_4 1 rfl ?_
  refine x_callVi C (As := [vI x1]) (rest := []) 1 (xw_at (N := 129) (i := 1) (by omega) (xd_L (Or.inl rfl))) vc_X3 (c_isPlant l D cy ad V J Rr hV hJ 1 (Or.inl rfl) x1 hx1) (l1 := []) (l2 := []) (List.append_nil _).symm (w2 := fun _ => XW cy ad V J Rr) (fun _ => List.append_nil _) rfl wm_yX3_isPlant wn_X3 wl_X11_91 wi_yX3_isPlant we_yX3_isPlant hd_yX3_isPlant rfl ⟨Nat.le_of_ble_eq_true rfl, Nat.le_of_ble_eq_true rfl⟩ (Nat.le_of_ble_eq_true rfl) ⟨Nat.le_of_ble_eq_true rfl, Nat.le_of_ble_eq_true rfl⟩ dX11_plantIs_5 (fun r1 u1 hr1 h1 => ?_)
  rcases h1 with ⟨rfl, t1, t1b, t1c⟩ | ⟨rfl, t1⟩
  · exact absurd (hnp _ (by omega)) t1c
  · refine x_if_ne_f C.1 (tgt := 13) dX11_plantIs_8 (by decide) (by decide) (by decide) ?_
    refine x_iconst C.1 (n := -1) dX11_plantIs_11 ?_
    exact x_iret (S := Unit) (post := fun r _ => r = -1) (w1 := fun _ : Unit => XW cy ad V J Rr) (a := (-1)) C hr rfl dX11_plantIs_12 (by decide) () rfl (by omega)
theorem dX11_gives_0 : decode cX11_gives 0 = .ok (.aload_n 0, 1) := by decide +kernel
theorem dX11_gives_1 : decode cX11_gives 1 = .ok (.getfield 10, 3) := by decide +kernel
theorem dX11_gives_4 : decode cX11_gives 4 = .ok (.iload_n 1, 1) := by decide +kernel
theorem dX11_gives_5 : decode cX11_gives 5 = .ok (.invokevirtual 168, 3) := by decide +kernel
theorem dX11_gives_8 : decode cX11_gives 8 = .ok (.ifCond .eq 14, 3) := by decide +kernel
theorem dX11_gives_22 : decode cX11_gives 22 = .ok (.iconst (-1), 1) := by decide +kernel
theorem dX11_gives_23 : decode cX11_gives 23 = .ok (.ireturn, 1) := by decide +kernel
set_option maxHeartbeats 4000000 in
set_option maxRecDepth 100000 in
theorem f_gives (l : Launch) (D : va_G) (cy : Nat → ClassId) (ad : Nat → Nat) (V J : Nat → Nat → Int) (Rr : Nat → Nat → Nat) (hV : VR V) (hJ : VJ J) (x1 x2 : Int) (hx1 : R32 x1) (hx2 : R32 x2) (hnp : NPl V 1) (hne : NPe V 1) (htl : V 58 1 = 0) : xMi l D (xTY cy) yX11_gives cX11_gives 3 (some .int) 2 42 0 0 [.ref (ad 0), vI x1, vI x2] (XW cy ad V J Rr) (fun _ : Unit => XW cy ad V J Rr) (fun r _ => r = -1) := by
  refine xMi.mk (lv0 := [(0, .ref (ad 0)), (1, vI x1), (2, vI x2)]) (by decide) rfl (Nat.le_of_ble_eq_true rfl) (fun p e s m below meth c A C hr hnm hAe => ?_)
  have C : xC2 p s m _ meth c D A s.heap 3 cX11_gives RX11 (xTY cy) := C
  refine x_aload_n C.1 dX11_gives_0 0 rfl ?_
  refine x_getA C (N := 129) (i := 0) (by decide) rfl vc_X11 wx_X11 0 (by decide) wf_X11_10 (a := 1) rfl dX11_gives_1 ?_
  refine x_iload_n C.1 dX11_gives_4 1 rfl ?_
  refine x_callVi C (As := [vI x1]) (rest := []) 1 (xw_at (N := 129) (i := 1) (by omega) (xd_L (Or.inl rfl))) vc_X3 (c_isPerson l D cy ad V J Rr hV hJ 1 (Or.inl rfl) x1 hx1) (l1 := []) (l2 := []) (List.append_nil _).symm (w2 := fun _ => XW cy ad V J Rr) (fun _ => List.append_nil _) rfl wm_yX3_isPerson wn_X3 wl_X11_168 wi_yX3_isPerson we_yX3_isPerson hd_yX3_isPerson rfl ⟨Nat.le_of_ble_eq_true rfl, Nat.le_of_ble_eq_true rfl⟩ (Nat.le_of_ble_eq_true rfl) ⟨Nat.le_of_ble_eq_true rfl, Nat.le_of_ble_eq_true rfl⟩ dX11_gives_5 (fun r1 u1 hr1 h1 => ?_)
  rcases h1 with ⟨rfl, t1, t1b, t1c⟩ | ⟨rfl, t1⟩
  · exact absurd (hne _ (by omega)) t1c
  · refine x_if_eq_t C.1 (tgt := 22) dX11_gives_8 (by decide) (by decide) (by decide) ?_
    refine x_iconst C.1 (n := -1) dX11_gives_22 ?_
    exact x_iret (S := Unit) (post := fun r _ => r = -1) (w1 := fun _ : Unit => XW cy ad V J Rr) (a := (-1)) C hr rfl dX11_gives_23 (by decide) () rfl (by omega)
theorem hd_yX11_isWithin : yX11_isWithin.cls ≠ "java/lang/invoke/MethodHandle" ∧ yX11_isWithin.cls ≠ "java/lang/invoke/VarHandle" ∧ (parseMethodDescriptor yX11_isWithin.desc).map (fun d => d.parameters.length) = some 3 := by decide +kernel
theorem dX11_law_0 : decode cX11_law 0 = .ok (.iload_n 1, 1) := by decide +kernel
theorem dX11_law_1 : decode cX11_law 1 = .ok (.iconst 1, 1) := by decide +kernel
theorem dX11_law_2 : decode cX11_law 2 = .ok (.sipush 200, 3) := by decide +kernel
theorem dX11_law_5 : decode cX11_law 5 = .ok (.invokestatic 74, 3) := by decide +kernel
theorem dX11_law_8 : decode cX11_law 8 = .ok (.ifCond .eq 14, 3) := by decide +kernel
theorem dX11_law_11 : decode cX11_law 11 = .ok (.iload_n 1, 1) := by decide +kernel
theorem dX11_law_12 : decode cX11_law 12 = .ok (.aload_n 0, 1) := by decide +kernel
theorem dX11_law_13 : decode cX11_law 13 = .ok (.getfield 25, 3) := by decide +kernel
theorem dX11_law_16 : decode cX11_law 16 = .ok (.getfield 120, 3) := by decide +kernel
theorem dX11_law_19 : decode cX11_law 19 = .ok (.if_icmp .le 5, 3) := by decide +kernel
theorem dX11_law_22 : decode cX11_law 22 = .ok (.iconst (-1), 1) := by decide +kernel
theorem dX11_law_23 : decode cX11_law 23 = .ok (.ireturn, 1) := by decide +kernel
set_option maxHeartbeats 4000000 in
set_option maxRecDepth 100000 in
theorem f_law (l : Launch) (D : va_G) (cy : Nat → ClassId) (ad : Nat → Nat) (V J : Nat → Nat → Int) (Rr : Nat → Nat → Nat) (hV : VR V) (hJ : VJ J) (x1 : Int) (hx1 : R32 x1) (hnp : NPl V 1) (hne : NPe V 1) (htl : V 58 1 = 0) : xMi l D (xTY cy) yX11_law cX11_law 3 (some .int) 1 22 0 0 [.ref (ad 0), vI x1] (XW cy ad V J Rr) (fun _ : Unit => XW cy ad V J Rr) (fun r _ => r = -1) := by
  refine xMi.mk (lv0 := [(0, .ref (ad 0)), (1, vI x1)]) (by decide) rfl (Nat.le_of_ble_eq_true rfl) (fun p e s m below meth c A C hr hnm hAe => ?_)
  have C : xC2 p s m _ meth c D A s.heap 3 cX11_law RX11 (xTY cy) := C
  refine x_iload_n C.1 dX11_law_0 1 rfl ?_
  refine x_iconst C.1 (n := 1) dX11_law_1 ?_
  refine x_sipush C.1 (n := 200) dX11_law_2 ?_
  refine x_callSi C (As := [vI x1, vI 1, vI 200]) (rest := []) (c_isWithin l D cy x1 1 200 hx1 (by decide) (by decide)) (l1 := []) (l2 := _) rfl (w2 := fun _ => _) (fun _ => rfl) rfl wm_yX11_isWithin wn_X11 wl_X11_74 wi_yX11_isWithin hd_yX11_isWithin rfl ⟨Nat.le_of_ble_eq_true rfl, Nat.le_of_ble_eq_true rfl⟩ (Nat.le_of_ble_eq_true rfl) ⟨Nat.le_of_ble_eq_true rfl, Nat.le_of_ble_eq_true rfl⟩ dX11_law_5 (fun r1 u1 hr1 h1 => ?_)
  rcases h1 with ⟨rfl, t1, t1b⟩ | ⟨rfl, t1⟩
  · refine x_if_eq_f C.1 (tgt := 22) dX11_law_8 (by decide) (by decide) (by decide) ?_
    refine x_iload_n C.1 dX11_law_11 1 rfl ?_
    refine x_aload_n C.1 dX11_law_12 0 rfl ?_
    refine x_getA C (N := 129) (i := 0) (by decide) rfl vc_X11 wx_X11 4 (by decide) wf_X11_25 (a := 58) rfl dX11_law_13 ?_
    refine x_getI C (N := 129) (i := 58) (by decide) rfl vc_X8 wx_X8 1 (by decide) wf_X11_120 rfl dX11_law_16 (a := 0) htl ?_
    refine x_icmp_le_f C.1 (tgt := 24) dX11_law_19 (by decide) hx1 (by decide) (by omega) ?_
    refine x_iconst C.1 (n := -1) dX11_law_22 ?_
    exact x_iret (S := Unit) (post := fun r _ => r = -1) (w1 := fun _ : Unit => XW cy ad V J Rr) (a := (-1)) C hr rfl dX11_law_23 (by decide) () rfl (by omega)
  · refine x_if_eq_t C.1 (tgt := 22) dX11_law_8 (by decide) (by decide) (by decide) ?_
    refine x_iconst C.1 (n := -1) dX11_law_22 ?_
    exact x_iret (S := Unit) (post := fun r _ => r = -1) (w1 := fun _ : Unit => XW cy ad V J Rr) (a := (-1)) C hr rfl dX11_law_23 (by decide) () rfl (by omega)
theorem dX11_rule_0 : decode cX11_rule 0 = .ok (.iload_n 1, 1) := by decide +kernel
theorem dX11_rule_1 : decode cX11_rule 1 = .ok (.iconst 4, 1) := by decide +kernel
theorem dX11_rule_2 : decode cX11_rule 2 = .ok (.invokestatic 70, 3) := by decide +kernel
theorem dX11_rule_5 : decode cX11_rule 5 = .ok (.ifCond .eq 25, 3) := by decide +kernel
theorem dX11_rule_8 : decode cX11_rule 8 = .ok (.iload_n 2, 1) := by decide +kernel
theorem dX11_rule_9 : decode cX11_rule 9 = .ok (.iconst 1, 1) := by decide +kernel
theorem dX11_rule_10 : decode cX11_rule 10 = .ok (.sipush 200, 3) := by decide +kernel
theorem dX11_rule_13 : decode cX11_rule 13 = .ok (.invokestatic 74, 3) := by decide +kernel
theorem dX11_rule_16 : decode cX11_rule 16 = .ok (.ifCond .eq 14, 3) := by decide +kernel
theorem dX11_rule_19 : decode cX11_rule 19 = .ok (.iload_n 2, 1) := by decide +kernel
theorem dX11_rule_20 : decode cX11_rule 20 = .ok (.aload_n 0, 1) := by decide +kernel
theorem dX11_rule_21 : decode cX11_rule 21 = .ok (.getfield 25, 3) := by decide +kernel
theorem dX11_rule_24 : decode cX11_rule 24 = .ok (.getfield 120, 3) := by decide +kernel
theorem dX11_rule_27 : decode cX11_rule 27 = .ok (.if_icmp .le 5, 3) := by decide +kernel
theorem dX11_rule_30 : decode cX11_rule 30 = .ok (.iconst (-1), 1) := by decide +kernel
theorem dX11_rule_31 : decode cX11_rule 31 = .ok (.ireturn, 1) := by decide +kernel
set_option maxHeartbeats 4000000 in
set_option maxRecDepth 100000 in
theorem f_rule (l : Launch) (D : va_G) (cy : Nat → ClassId) (ad : Nat → Nat) (V J : Nat → Nat → Int) (Rr : Nat → Nat → Nat) (hV : VR V) (hJ : VJ J) (x1 x2 : Int) (hx1 : R32 x1) (hx2 : R32 x2) (hnp : NPl V 1) (hne : NPe V 1) (htl : V 58 1 = 0) : xMi l D (xTY cy) yX11_rule cX11_rule 4 (some .int) 1 22 0 0 [.ref (ad 0), vI x1, vI x2] (XW cy ad V J Rr) (fun _ : Unit => XW cy ad V J Rr) (fun r _ => r = -1) := by
  refine xMi.mk (lv0 := [(0, .ref (ad 0)), (1, vI x1), (2, vI x2)]) (by decide) rfl (Nat.le_of_ble_eq_true rfl) (fun p e s m below meth c A C hr hnm hAe => ?_)
  have C : xC2 p s m _ meth c D A s.heap 4 cX11_rule RX11 (xTY cy) := C
  refine x_iload_n C.1 dX11_rule_0 1 rfl ?_
  refine x_iconst C.1 (n := 4) dX11_rule_1 ?_
  refine x_callSi C (As := [vI x1, vI 4]) (rest := []) (c_isPlace l D cy x1 4 hx1 (by decide)) (l1 := []) (l2 := _) rfl (w2 := fun _ => _) (fun _ => rfl) rfl wm_yX11_isPlace wn_X11 wl_X11_70 wi_yX11_isPlace hd_yX11_isPlace rfl ⟨Nat.le_of_ble_eq_true rfl, Nat.le_of_ble_eq_true rfl⟩ (Nat.le_of_ble_eq_true rfl) ⟨Nat.le_of_ble_eq_true rfl, Nat.le_of_ble_eq_true rfl⟩ dX11_rule_2 (fun r1 u1 hr1 h1 => ?_)
  rcases h1 with ⟨rfl, t1, t1b⟩ | ⟨rfl, t1⟩
  · refine x_if_eq_f C.1 (tgt := 30) dX11_rule_5 (by decide) (by decide) (by decide) ?_
    refine x_iload_n C.1 dX11_rule_8 2 rfl ?_
    refine x_iconst C.1 (n := 1) dX11_rule_9 ?_
    refine x_sipush C.1 (n := 200) dX11_rule_10 ?_
    refine x_callSi C (As := [vI x2, vI 1, vI 200]) (rest := []) (c_isWithin l D cy x2 1 200 hx2 (by decide) (by decide)) (l1 := []) (l2 := _) rfl (w2 := fun _ => _) (fun _ => rfl) rfl wm_yX11_isWithin wn_X11 wl_X11_74 wi_yX11_isWithin hd_yX11_isWithin rfl ⟨Nat.le_of_ble_eq_true rfl, Nat.le_of_ble_eq_true rfl⟩ (Nat.le_of_ble_eq_true rfl) ⟨Nat.le_of_ble_eq_true rfl, Nat.le_of_ble_eq_true rfl⟩ dX11_rule_13 (fun r2 u2 hr2 h2 => ?_)
    rcases h2 with ⟨rfl, t2, t2b⟩ | ⟨rfl, t2⟩
    · refine x_if_eq_f C.1 (tgt := 30) dX11_rule_16 (by decide) (by decide) (by decide) ?_
      refine x_iload_n C.1 dX11_rule_19 2 rfl ?_
      refine x_aload_n C.1 dX11_rule_20 0 rfl ?_
      refine x_getA C (N := 129) (i := 0) (by decide) rfl vc_X11 wx_X11 4 (by decide) wf_X11_25 (a := 58) rfl dX11_rule_21 ?_
      refine x_getI C (N := 129) (i := 58) (by decide) rfl vc_X8 wx_X8 1 (by decide) wf_X11_120 rfl dX11_rule_24 (a := 0) htl ?_
      refine x_icmp_le_f C.1 (tgt := 32) dX11_rule_27 (by decide) hx2 (by decide) (by omega) ?_
      refine x_iconst C.1 (n := -1) dX11_rule_30 ?_
      exact x_iret (S := Unit) (post := fun r _ => r = -1) (w1 := fun _ : Unit => XW cy ad V J Rr) (a := (-1)) C hr rfl dX11_rule_31 (by decide) () rfl (by omega)
    · refine x_if_eq_t C.1 (tgt := 30) dX11_rule_16 (by decide) (by decide) (by decide) ?_
      refine x_iconst C.1 (n := -1) dX11_rule_30 ?_
      exact x_iret (S := Unit) (post := fun r _ => r = -1) (w1 := fun _ : Unit => XW cy ad V J Rr) (a := (-1)) C hr rfl dX11_rule_31 (by decide) () rfl (by omega)
  · refine x_if_eq_t C.1 (tgt := 30) dX11_rule_5 (by decide) (by decide) (by decide) ?_
    refine x_iconst C.1 (n := -1) dX11_rule_30 ?_
    exact x_iret (S := Unit) (post := fun r _ => r = -1) (w1 := fun _ : Unit => XW cy ad V J Rr) (a := (-1)) C hr rfl dX11_rule_31 (by decide) () rfl (by omega)
theorem hd_yX11_canReckon : yX11_canReckon.cls ≠ "java/lang/invoke/MethodHandle" ∧ yX11_canReckon.cls ≠ "java/lang/invoke/VarHandle" ∧ (parseMethodDescriptor yX11_canReckon.desc).map (fun d => d.parameters.length) = some 3 := by decide +kernel
theorem dX11_exactly_0 : decode cX11_exactly 0 = .ok (.aload_n 0, 1) := by decide +kernel
theorem dX11_exactly_1 : decode cX11_exactly 1 = .ok (.iload_n 1, 1) := by decide +kernel
theorem dX11_exactly_2 : decode cX11_exactly 2 = .ok (.iload_n 2, 1) := by decide +kernel
theorem dX11_exactly_3 : decode cX11_exactly 3 = .ok (.iload_n 3, 1) := by decide +kernel
theorem dX11_exactly_4 : decode cX11_exactly 4 = .ok (.invokevirtual 198, 3) := by decide +kernel
theorem dX11_exactly_7 : decode cX11_exactly 7 = .ok (.ifCond .eq 14, 3) := by decide +kernel
theorem dX11_exactly_21 : decode cX11_exactly 21 = .ok (.ldc2_w 201, 3) := by decide +kernel
theorem dX11_exactly_24 : decode cX11_exactly 24 = .ok (.lreturn, 1) := by decide +kernel
set_option maxHeartbeats 4000000 in
set_option maxRecDepth 100000 in
theorem f_exactly (l : Launch) (D : va_G) (cy : Nat → ClassId) (ad : Nat → Nat) (V J : Nat → Nat → Int) (Rr : Nat → Nat → Nat) (hV : VR V) (hJ : VJ J) (x1 x2 x3 x4 : Int) (hx1 : R32 x1) (hx2 : R32 x2) (hx3 : R32 x3) (hx4 : R32 x4) (hnp : NPl V 1) (hne : NPe V 1) (htl : V 58 1 = 0) : xMl l D (xTY cy) yX11_exactly cX11_exactly 7 (some .long) 4 86 0 0 [.ref (ad 0), vI x1, vI x2, vI x3, vI x4] (XW cy ad V J Rr) (fun _ : Unit => XW cy ad V J Rr) (fun r _ => r = -1) := by
  refine xMl.mk (lv0 := [(0, .ref (ad 0)), (1, vI x1), (2, vI x2), (3, vI x3), (4, vI x4)]) (by decide) rfl (Nat.le_of_ble_eq_true rfl) (fun p e s m below meth c A C hr hnm hAe => ?_)
  have C : xC2 p s m _ meth c D A s.heap 7 cX11_exactly RX11 (xTY cy) := C
  refine x_aload_n C.1 dX11_exactly_0 0 rfl ?_
  refine x_iload_n C.1 dX11_exactly_1 1 rfl ?_
  refine x_iload_n C.1 dX11_exactly_2 2 rfl ?_
  refine x_iload_n C.1 dX11_exactly_3 3 rfl ?_
  refine x_callVi C (As := [vI x1, vI x2, vI x3]) (rest := []) 0 (xw_at (N := 129) (i := 0) (by decide) rfl) vc_X11 (f_canReckon l D cy ad V J Rr hV hJ x1 x2 x3 hx1 hx2 hx3 hnp hne htl) (l1 := []) (l2 := []) (List.append_nil _).symm (w2 := fun _ => XW cy ad V J Rr) (fun _ => List.append_nil _) rfl wm_yX11_canReckon wn_X11 wl_X11_198 wi_yX11_canReckon we_yX11_canReckon hd_yX11_canReckon rfl ⟨Nat.le_of_ble_eq_true rfl, Nat.le_of_ble_eq_true rfl⟩ (Nat.le_of_ble_eq_true rfl) ⟨Nat.le_of_ble_eq_true rfl, Nat.le_of_ble_eq_true rfl⟩ dX11_exactly_4 (fun r1 u1 hr1 h1 => ?_)
  obtain rfl := h1
  refine x_if_eq_t C.1 (tgt := 21) dX11_exactly_7 (by decide) (by decide) (by decide) ?_
  refine x_ldc2 C.1 (n := -1) wq_X11_201 dX11_exactly_21 ?_
  exact x_lret (S := Unit) (post := fun r _ => r = -1) (w1 := fun _ : Unit => XW cy ad V J Rr) (a := (-1)) C hr rfl dX11_exactly_24 (by decide) () rfl (by omega)
theorem dX11_chance_0 : decode cX11_chance 0 = .ok (.aload_n 0, 1) := by decide +kernel
theorem dX11_chance_1 : decode cX11_chance 1 = .ok (.iload_n 1, 1) := by decide +kernel
theorem dX11_chance_2 : decode cX11_chance 2 = .ok (.iload_n 2, 1) := by decide +kernel
theorem dX11_chance_3 : decode cX11_chance 3 = .ok (.iload_n 3, 1) := by decide +kernel
theorem dX11_chance_4 : decode cX11_chance 4 = .ok (.invokevirtual 198, 3) := by decide +kernel
theorem dX11_chance_7 : decode cX11_chance 7 = .ok (.ifCond .eq 13, 3) := by decide +kernel
theorem dX11_chance_20 : decode cX11_chance 20 = .ok (.ldc2_w 201, 3) := by decide +kernel
theorem dX11_chance_23 : decode cX11_chance 23 = .ok (.lreturn, 1) := by decide +kernel
set_option maxHeartbeats 4000000 in
set_option maxRecDepth 100000 in
theorem f_chance (l : Launch) (D : va_G) (cy : Nat → ClassId) (ad : Nat → Nat) (V J : Nat → Nat → Int) (Rr : Nat → Nat → Nat) (hV : VR V) (hJ : VJ J) (x1 x2 x3 x4 : Int) (hx1 : R32 x1) (hx2 : R32 x2) (hx3 : R32 x3) (hx4 : R32 x4) (hnp : NPl V 1) (hne : NPe V 1) (htl : V 58 1 = 0) : xMl l D (xTY cy) yX11_chance cX11_chance 11 (some .long) 4 86 0 0 [.ref (ad 0), vI x1, vI x2, vI x3, vI x4] (XW cy ad V J Rr) (fun _ : Unit => XW cy ad V J Rr) (fun r _ => r = -1) := by
  refine xMl.mk (lv0 := [(0, .ref (ad 0)), (1, vI x1), (2, vI x2), (3, vI x3), (4, vI x4)]) (by decide) rfl (Nat.le_of_ble_eq_true rfl) (fun p e s m below meth c A C hr hnm hAe => ?_)
  have C : xC2 p s m _ meth c D A s.heap 11 cX11_chance RX11 (xTY cy) := C
  refine x_aload_n C.1 dX11_chance_0 0 rfl ?_
  refine x_iload_n C.1 dX11_chance_1 1 rfl ?_
  refine x_iload_n C.1 dX11_chance_2 2 rfl ?_
  refine x_iload_n C.1 dX11_chance_3 3 rfl ?_
  refine x_callVi C (As := [vI x1, vI x2, vI x3]) (rest := []) 0 (xw_at (N := 129) (i := 0) (by decide) rfl) vc_X11 (f_canReckon l D cy ad V J Rr hV hJ x1 x2 x3 hx1 hx2 hx3 hnp hne htl) (l1 := []) (l2 := []) (List.append_nil _).symm (w2 := fun _ => XW cy ad V J Rr) (fun _ => List.append_nil _) rfl wm_yX11_canReckon wn_X11 wl_X11_198 wi_yX11_canReckon we_yX11_canReckon hd_yX11_canReckon rfl ⟨Nat.le_of_ble_eq_true rfl, Nat.le_of_ble_eq_true rfl⟩ (Nat.le_of_ble_eq_true rfl) ⟨Nat.le_of_ble_eq_true rfl, Nat.le_of_ble_eq_true rfl⟩ dX11_chance_4 (fun r1 u1 hr1 h1 => ?_)
  obtain rfl := h1
  refine x_if_eq_t C.1 (tgt := 20) dX11_chance_7 (by decide) (by decide) (by decide) ?_
  refine x_ldc2 C.1 (n := -1) wq_X11_201 dX11_chance_20 ?_
  exact x_lret (S := Unit) (post := fun r _ => r = -1) (w1 := fun _ : Unit => XW cy ad V J Rr) (a := (-1)) C hr rfl dX11_chance_23 (by decide) () rfl (by omega)
theorem dX11_toAsk_0 : decode cX11_toAsk 0 = .ok (.aload_n 0, 1) := by decide +kernel
theorem dX11_toAsk_1 : decode cX11_toAsk 1 = .ok (.iload_n 1, 1) := by decide +kernel
theorem dX11_toAsk_2 : decode cX11_toAsk 2 = .ok (.iload_n 2, 1) := by decide +kernel
theorem dX11_toAsk_3 : decode cX11_toAsk 3 = .ok (.iload_n 3, 1) := by decide +kernel
theorem dX11_toAsk_4 : decode cX11_toAsk 4 = .ok (.invokevirtual 198, 3) := by decide +kernel
theorem dX11_toAsk_7 : decode cX11_toAsk 7 = .ok (.ifCond .eq 13, 3) := by decide +kernel
theorem dX11_toAsk_20 : decode cX11_toAsk 20 = .ok (.ldc2_w 201, 3) := by decide +kernel
theorem dX11_toAsk_23 : decode cX11_toAsk 23 = .ok (.lreturn, 1) := by decide +kernel
set_option maxHeartbeats 4000000 in
set_option maxRecDepth 100000 in
theorem f_toAsk (l : Launch) (D : va_G) (cy : Nat → ClassId) (ad : Nat → Nat) (V J : Nat → Nat → Int) (Rr : Nat → Nat → Nat) (hV : VR V) (hJ : VJ J) (x1 x2 x3 x4 : Int) (hx1 : R32 x1) (hx2 : R32 x2) (hx3 : R32 x3) (hx4 : R32 x4) (hnp : NPl V 1) (hne : NPe V 1) (htl : V 58 1 = 0) : xMl l D (xTY cy) yX11_toAsk cX11_toAsk 11 (some .long) 4 86 0 0 [.ref (ad 0), vI x1, vI x2, vI x3, vI x4] (XW cy ad V J Rr) (fun _ : Unit => XW cy ad V J Rr) (fun r _ => r = -1) := by
  refine xMl.mk (lv0 := [(0, .ref (ad 0)), (1, vI x1), (2, vI x2), (3, vI x3), (4, vI x4)]) (by decide) rfl (Nat.le_of_ble_eq_true rfl) (fun p e s m below meth c A C hr hnm hAe => ?_)
  have C : xC2 p s m _ meth c D A s.heap 11 cX11_toAsk RX11 (xTY cy) := C
  refine x_aload_n C.1 dX11_toAsk_0 0 rfl ?_
  refine x_iload_n C.1 dX11_toAsk_1 1 rfl ?_
  refine x_iload_n C.1 dX11_toAsk_2 2 rfl ?_
  refine x_iload_n C.1 dX11_toAsk_3 3 rfl ?_
  refine x_callVi C (As := [vI x1, vI x2, vI x3]) (rest := []) 0 (xw_at (N := 129) (i := 0) (by decide) rfl) vc_X11 (f_canReckon l D cy ad V J Rr hV hJ x1 x2 x3 hx1 hx2 hx3 hnp hne htl) (l1 := []) (l2 := []) (List.append_nil _).symm (w2 := fun _ => XW cy ad V J Rr) (fun _ => List.append_nil _) rfl wm_yX11_canReckon wn_X11 wl_X11_198 wi_yX11_canReckon we_yX11_canReckon hd_yX11_canReckon rfl ⟨Nat.le_of_ble_eq_true rfl, Nat.le_of_ble_eq_true rfl⟩ (Nat.le_of_ble_eq_true rfl) ⟨Nat.le_of_ble_eq_true rfl, Nat.le_of_ble_eq_true rfl⟩ dX11_toAsk_4 (fun r1 u1 hr1 h1 => ?_)
  obtain rfl := h1
  refine x_if_eq_t C.1 (tgt := 20) dX11_toAsk_7 (by decide) (by decide) (by decide) ?_
  refine x_ldc2 C.1 (n := -1) wq_X11_201 dX11_toAsk_20 ?_
  exact x_lret (S := Unit) (post := fun r _ => r = -1) (w1 := fun _ : Unit => XW cy ad V J Rr) (a := (-1)) C hr rfl dX11_toAsk_23 (by decide) () rfl (by omega)
theorem dX11_movesOut_0 : decode cX11_movesOut 0 = .ok (.aload_n 0, 1) := by decide +kernel
theorem dX11_movesOut_1 : decode cX11_movesOut 1 = .ok (.iload_n 1, 1) := by decide +kernel
theorem dX11_movesOut_2 : decode cX11_movesOut 2 = .ok (.iload_n 2, 1) := by decide +kernel
theorem dX11_movesOut_3 : decode cX11_movesOut 3 = .ok (.iload_n 3, 1) := by decide +kernel
theorem dX11_movesOut_4 : decode cX11_movesOut 4 = .ok (.invokevirtual 198, 3) := by decide +kernel
theorem dX11_movesOut_7 : decode cX11_movesOut 7 = .ok (.ifCond .eq 13, 3) := by decide +kernel
theorem dX11_movesOut_20 : decode cX11_movesOut 20 = .ok (.ldc2_w 201, 3) := by decide +kernel
theorem dX11_movesOut_23 : decode cX11_movesOut 23 = .ok (.lreturn, 1) := by decide +kernel
set_option maxHeartbeats 4000000 in
set_option maxRecDepth 100000 in
theorem f_movesOut (l : Launch) (D : va_G) (cy : Nat → ClassId) (ad : Nat → Nat) (V J : Nat → Nat → Int) (Rr : Nat → Nat → Nat) (hV : VR V) (hJ : VJ J) (x1 x2 x3 x4 : Int) (hx1 : R32 x1) (hx2 : R32 x2) (hx3 : R32 x3) (hx4 : R32 x4) (hnp : NPl V 1) (hne : NPe V 1) (htl : V 58 1 = 0) : xMl l D (xTY cy) yX11_movesOut cX11_movesOut 11 (some .long) 4 86 0 0 [.ref (ad 0), vI x1, vI x2, vI x3, vI x4] (XW cy ad V J Rr) (fun _ : Unit => XW cy ad V J Rr) (fun r _ => r = -1) := by
  refine xMl.mk (lv0 := [(0, .ref (ad 0)), (1, vI x1), (2, vI x2), (3, vI x3), (4, vI x4)]) (by decide) rfl (Nat.le_of_ble_eq_true rfl) (fun p e s m below meth c A C hr hnm hAe => ?_)
  have C : xC2 p s m _ meth c D A s.heap 11 cX11_movesOut RX11 (xTY cy) := C
  refine x_aload_n C.1 dX11_movesOut_0 0 rfl ?_
  refine x_iload_n C.1 dX11_movesOut_1 1 rfl ?_
  refine x_iload_n C.1 dX11_movesOut_2 2 rfl ?_
  refine x_iload_n C.1 dX11_movesOut_3 3 rfl ?_
  refine x_callVi C (As := [vI x1, vI x2, vI x3]) (rest := []) 0 (xw_at (N := 129) (i := 0) (by decide) rfl) vc_X11 (f_canReckon l D cy ad V J Rr hV hJ x1 x2 x3 hx1 hx2 hx3 hnp hne htl) (l1 := []) (l2 := []) (List.append_nil _).symm (w2 := fun _ => XW cy ad V J Rr) (fun _ => List.append_nil _) rfl wm_yX11_canReckon wn_X11 wl_X11_198 wi_yX11_canReckon we_yX11_canReckon hd_yX11_canReckon rfl ⟨Nat.le_of_ble_eq_true rfl, Nat.le_of_ble_eq_true rfl⟩ (Nat.le_of_ble_eq_true rfl) ⟨Nat.le_of_ble_eq_true rfl, Nat.le_of_ble_eq_true rfl⟩ dX11_movesOut_4 (fun r1 u1 hr1 h1 => ?_)
  obtain rfl := h1
  refine x_if_eq_t C.1 (tgt := 20) dX11_movesOut_7 (by decide) (by decide) (by decide) ?_
  refine x_ldc2 C.1 (n := -1) wq_X11_201 dX11_movesOut_20 ?_
  exact x_lret (S := Unit) (post := fun r _ => r = -1) (w1 := fun _ : Unit => XW cy ad V J Rr) (a := (-1)) C hr rfl dX11_movesOut_23 (by decide) () rfl (by omega)
theorem dX11_ruleFor_0 : decode cX11_ruleFor 0 = .ok (.aload_n 0, 1) := by decide +kernel
theorem dX11_ruleFor_1 : decode cX11_ruleFor 1 = .ok (.iload_n 1, 1) := by decide +kernel
theorem dX11_ruleFor_2 : decode cX11_ruleFor 2 = .ok (.iload_n 2, 1) := by decide +kernel
theorem dX11_ruleFor_3 : decode cX11_ruleFor 3 = .ok (.iload_n 3, 1) := by decide +kernel
theorem dX11_ruleFor_4 : decode cX11_ruleFor 4 = .ok (.invokevirtual 198, 3) := by decide +kernel
theorem dX11_ruleFor_7 : decode cX11_ruleFor 7 = .ok (.ifCond .eq 24, 3) := by decide +kernel
theorem dX11_ruleFor_31 : decode cX11_ruleFor 31 = .ok (.ldc2_w 201, 3) := by decide +kernel
theorem dX11_ruleFor_34 : decode cX11_ruleFor 34 = .ok (.lreturn, 1) := by decide +kernel
set_option maxHeartbeats 4000000 in
set_option maxRecDepth 100000 in
theorem f_ruleFor (l : Launch) (D : va_G) (cy : Nat → ClassId) (ad : Nat → Nat) (V J : Nat → Nat → Int) (Rr : Nat → Nat → Nat) (hV : VR V) (hJ : VJ J) (x1 x2 x3 x4 x5 : Int) (hx1 : R32 x1) (hx2 : R32 x2) (hx3 : R32 x3) (hx4 : R32 x4) (hx5 : R32 x5) (hnp : NPl V 1) (hne : NPe V 1) (htl : V 58 1 = 0) : xMl l D (xTY cy) yX11_ruleFor cX11_ruleFor 12 (some .long) 4 86 0 0 [.ref (ad 0), vI x1, vI x2, vI x3, vI x4, vI x5] (XW cy ad V J Rr) (fun _ : Unit => XW cy ad V J Rr) (fun r _ => r = -1) := by
  refine xMl.mk (lv0 := [(0, .ref (ad 0)), (1, vI x1), (2, vI x2), (3, vI x3), (4, vI x4), (5, vI x5)]) (by decide) rfl (Nat.le_of_ble_eq_true rfl) (fun p e s m below meth c A C hr hnm hAe => ?_)
  have C : xC2 p s m _ meth c D A s.heap 12 cX11_ruleFor RX11 (xTY cy) := C
  refine x_aload_n C.1 dX11_ruleFor_0 0 rfl ?_
  refine x_iload_n C.1 dX11_ruleFor_1 1 rfl ?_
  refine x_iload_n C.1 dX11_ruleFor_2 2 rfl ?_
  refine x_iload_n C.1 dX11_ruleFor_3 3 rfl ?_
  refine x_callVi C (As := [vI x1, vI x2, vI x3]) (rest := []) 0 (xw_at (N := 129) (i := 0) (by decide) rfl) vc_X11 (f_canReckon l D cy ad V J Rr hV hJ x1 x2 x3 hx1 hx2 hx3 hnp hne htl) (l1 := []) (l2 := []) (List.append_nil _).symm (w2 := fun _ => XW cy ad V J Rr) (fun _ => List.append_nil _) rfl wm_yX11_canReckon wn_X11 wl_X11_198 wi_yX11_canReckon we_yX11_canReckon hd_yX11_canReckon rfl ⟨Nat.le_of_ble_eq_true rfl, Nat.le_of_ble_eq_true rfl⟩ (Nat.le_of_ble_eq_true rfl) ⟨Nat.le_of_ble_eq_true rfl, Nat.le_of_ble_eq_true rfl⟩ dX11_ruleFor_4 (fun r1 u1 hr1 h1 => ?_)
  obtain rfl := h1
  refine x_if_eq_t C.1 (tgt := 31) dX11_ruleFor_7 (by decide) (by decide) (by decide) ?_
  refine x_ldc2 C.1 (n := -1) wq_X11_201 dX11_ruleFor_31 ?_
  exact x_lret (S := Unit) (post := fun r _ => r = -1) (w1 := fun _ : Unit => XW cy ad V J Rr) (a := (-1)) C hr rfl dX11_ruleFor_34 (by decide) () rfl (by omega)
theorem dX11_few_0 : decode cX11_few 0 = .ok (.aload_n 0, 1) := by decide +kernel
theorem dX11_few_1 : decode cX11_few 1 = .ok (.iload_n 1, 1) := by decide +kernel
theorem dX11_few_2 : decode cX11_few 2 = .ok (.iload_n 2, 1) := by decide +kernel
theorem dX11_few_3 : decode cX11_few 3 = .ok (.iload_n 3, 1) := by decide +kernel
theorem dX11_few_4 : decode cX11_few 4 = .ok (.invokevirtual 198, 3) := by decide +kernel
theorem dX11_few_7 : decode cX11_few 7 = .ok (.ifCond .eq 14, 3) := by decide +kernel
theorem dX11_few_21 : decode cX11_few 21 = .ok (.iconst (-1), 1) := by decide +kernel
theorem dX11_few_22 : decode cX11_few 22 = .ok (.ireturn, 1) := by decide +kernel
set_option maxHeartbeats 4000000 in
set_option maxRecDepth 100000 in
theorem f_few (l : Launch) (D : va_G) (cy : Nat → ClassId) (ad : Nat → Nat) (V J : Nat → Nat → Int) (Rr : Nat → Nat → Nat) (hV : VR V) (hJ : VJ J) (x1 x2 x3 x4 : Int) (hx1 : R32 x1) (hx2 : R32 x2) (hx3 : R32 x3) (hx4 : R32 x4) (hnp : NPl V 1) (hne : NPe V 1) (htl : V 58 1 = 0) : xMi l D (xTY cy) yX11_few cX11_few 8 (some .int) 4 86 0 0 [.ref (ad 0), vI x1, vI x2, vI x3, vI x4] (XW cy ad V J Rr) (fun _ : Unit => XW cy ad V J Rr) (fun r _ => r = -1) := by
  refine xMi.mk (lv0 := [(0, .ref (ad 0)), (1, vI x1), (2, vI x2), (3, vI x3), (4, vI x4)]) (by decide) rfl (Nat.le_of_ble_eq_true rfl) (fun p e s m below meth c A C hr hnm hAe => ?_)
  have C : xC2 p s m _ meth c D A s.heap 8 cX11_few RX11 (xTY cy) := C
  refine x_aload_n C.1 dX11_few_0 0 rfl ?_
  refine x_iload_n C.1 dX11_few_1 1 rfl ?_
  refine x_iload_n C.1 dX11_few_2 2 rfl ?_
  refine x_iload_n C.1 dX11_few_3 3 rfl ?_
  refine x_callVi C (As := [vI x1, vI x2, vI x3]) (rest := []) 0 (xw_at (N := 129) (i := 0) (by decide) rfl) vc_X11 (f_canReckon l D cy ad V J Rr hV hJ x1 x2 x3 hx1 hx2 hx3 hnp hne htl) (l1 := []) (l2 := []) (List.append_nil _).symm (w2 := fun _ => XW cy ad V J Rr) (fun _ => List.append_nil _) rfl wm_yX11_canReckon wn_X11 wl_X11_198 wi_yX11_canReckon we_yX11_canReckon hd_yX11_canReckon rfl ⟨Nat.le_of_ble_eq_true rfl, Nat.le_of_ble_eq_true rfl⟩ (Nat.le_of_ble_eq_true rfl) ⟨Nat.le_of_ble_eq_true rfl, Nat.le_of_ble_eq_true rfl⟩ dX11_few_4 (fun r1 u1 hr1 h1 => ?_)
  obtain rfl := h1
  refine x_if_eq_t C.1 (tgt := 21) dX11_few_7 (by decide) (by decide) (by decide) ?_
  refine x_iconst C.1 (n := -1) dX11_few_21 ?_
  exact x_iret (S := Unit) (post := fun r _ => r = -1) (w1 := fun _ : Unit => XW cy ad V J Rr) (a := (-1)) C hr rfl dX11_few_22 (by decide) () rfl (by omega)
theorem dX11_pot_0 : decode cX11_pot 0 = .ok (.aload_n 0, 1) := by decide +kernel
theorem dX11_pot_1 : decode cX11_pot 1 = .ok (.iload_n 1, 1) := by decide +kernel
theorem dX11_pot_2 : decode cX11_pot 2 = .ok (.iload_n 2, 1) := by decide +kernel
theorem dX11_pot_3 : decode cX11_pot 3 = .ok (.iload_n 3, 1) := by decide +kernel
theorem dX11_pot_4 : decode cX11_pot 4 = .ok (.invokevirtual 198, 3) := by decide +kernel
theorem dX11_pot_7 : decode cX11_pot 7 = .ok (.ifCond .eq 14, 3) := by decide +kernel
theorem dX11_pot_21 : decode cX11_pot 21 = .ok (.ldc2_w 243, 3) := by decide +kernel
theorem dX11_pot_24 : decode cX11_pot 24 = .ok (.lreturn, 1) := by decide +kernel
set_option maxHeartbeats 4000000 in
set_option maxRecDepth 100000 in
theorem f_pot (l : Launch) (D : va_G) (cy : Nat → ClassId) (ad : Nat → Nat) (V J : Nat → Nat → Int) (Rr : Nat → Nat → Nat) (hV : VR V) (hJ : VJ J) (x1 x2 x3 x4 : Int) (hx1 : R32 x1) (hx2 : R32 x2) (hx3 : R32 x3) (hx4 : R32 x4) (hnp : NPl V 1) (hne : NPe V 1) (htl : V 58 1 = 0) : xMl l D (xTY cy) yX11_pot cX11_pot 7 (some .long) 4 86 0 0 [.ref (ad 0), vI x1, vI x2, vI x3, vI x4] (XW cy ad V J Rr) (fun _ : Unit => XW cy ad V J Rr) (fun r _ => r = -1000000000000) := by
  refine xMl.mk (lv0 := [(0, .ref (ad 0)), (1, vI x1), (2, vI x2), (3, vI x3), (4, vI x4)]) (by decide) rfl (Nat.le_of_ble_eq_true rfl) (fun p e s m below meth c A C hr hnm hAe => ?_)
  have C : xC2 p s m _ meth c D A s.heap 7 cX11_pot RX11 (xTY cy) := C
  refine x_aload_n C.1 dX11_pot_0 0 rfl ?_
  refine x_iload_n C.1 dX11_pot_1 1 rfl ?_
  refine x_iload_n C.1 dX11_pot_2 2 rfl ?_
  refine x_iload_n C.1 dX11_pot_3 3 rfl ?_
  refine x_callVi C (As := [vI x1, vI x2, vI x3]) (rest := []) 0 (xw_at (N := 129) (i := 0) (by decide) rfl) vc_X11 (f_canReckon l D cy ad V J Rr hV hJ x1 x2 x3 hx1 hx2 hx3 hnp hne htl) (l1 := []) (l2 := []) (List.append_nil _).symm (w2 := fun _ => XW cy ad V J Rr) (fun _ => List.append_nil _) rfl wm_yX11_canReckon wn_X11 wl_X11_198 wi_yX11_canReckon we_yX11_canReckon hd_yX11_canReckon rfl ⟨Nat.le_of_ble_eq_true rfl, Nat.le_of_ble_eq_true rfl⟩ (Nat.le_of_ble_eq_true rfl) ⟨Nat.le_of_ble_eq_true rfl, Nat.le_of_ble_eq_true rfl⟩ dX11_pot_4 (fun r1 u1 hr1 h1 => ?_)
  obtain rfl := h1
  refine x_if_eq_t C.1 (tgt := 21) dX11_pot_7 (by decide) (by decide) (by decide) ?_
  refine x_ldc2 C.1 (n := -1000000000000) wq_X11_243 dX11_pot_21 ?_
  exact x_lret (S := Unit) (post := fun r _ => r = -1000000000000) (w1 := fun _ : Unit => XW cy ad V J Rr) (a := (-1000000000000)) C hr rfl dX11_pot_24 (by decide) () rfl (by omega)
