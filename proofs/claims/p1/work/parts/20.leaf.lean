theorem dX11_isWithin_0 : decode cX11_isWithin 0 = .ok (.iload_n 0, 1) := by decide +kernel
theorem dX11_isWithin_1 : decode cX11_isWithin 1 = .ok (.iload_n 1, 1) := by decide +kernel
theorem dX11_isWithin_2 : decode cX11_isWithin 2 = .ok (.if_icmp .lt 12, 3) := by decide +kernel
theorem dX11_isWithin_5 : decode cX11_isWithin 5 = .ok (.iload_n 0, 1) := by decide +kernel
theorem dX11_isWithin_6 : decode cX11_isWithin 6 = .ok (.iload_n 2, 1) := by decide +kernel
theorem dX11_isWithin_7 : decode cX11_isWithin 7 = .ok (.if_icmp .gt 7, 3) := by decide +kernel
theorem dX11_isWithin_10 : decode cX11_isWithin 10 = .ok (.iconst 1, 1) := by decide +kernel
theorem dX11_isWithin_11 : decode cX11_isWithin 11 = .ok (.goto 4, 3) := by decide +kernel
theorem dX11_isWithin_14 : decode cX11_isWithin 14 = .ok (.iconst 0, 1) := by decide +kernel
theorem dX11_isWithin_15 : decode cX11_isWithin 15 = .ok (.ireturn, 1) := by decide +kernel
set_option maxHeartbeats 4000000 in
set_option maxRecDepth 100000 in
theorem c_isWithin (l : Launch) (D : va_G) (cy : Nat → ClassId) (x least most : Int) (hx : R32 x) (hleast : R32 least) (hmost : R32 most) : xMi l D (xTY cy) yX11_isWithin cX11_isWithin 3 (some .boolean) 0 0 0 0 [vI x, vI least, vI most] [] (fun _ : Unit => []) (fun r _ => (r = 1 ∧ least ≤ x ∧ x ≤ most) ∨ (r = 0 ∧ ¬ (least ≤ x ∧ x ≤ most))) := by
  refine xMi.mk (lv0 := [(0, vI x), (1, vI least), (2, vI most)]) (by decide) rfl (Nat.le_of_ble_eq_true rfl) (fun p e s m below meth c A C hr hnm hAe => ?_)
  have C : xC2 p s m _ meth c D A s.heap 3 cX11_isWithin RX11 (xTY cy) := C
  refine x_iload_n C.1 dX11_isWithin_0 0 rfl ?_
  refine x_iload_n C.1 dX11_isWithin_1 1 rfl ?_
  refine x_icmp_lt C.1 (tgt := 14) dX11_isWithin_2 (by decide) hx hleast (fun c2_1 => ?_) (fun c2_1 => ?_)
  · refine x_iconst C.1 (n := 0) dX11_isWithin_14 ?_
    exact x_zret (S := Unit) (post := fun r _ => (r = 1 ∧ least ≤ x ∧ x ≤ most) ∨ (r = 0 ∧ ¬ (least ≤ x ∧ x ≤ most))) (w1 := fun _ : Unit => []) (a := 0) C hr rfl dX11_isWithin_15 (by decide) () rfl (by omega)
  · refine x_iload_n C.1 dX11_isWithin_5 0 rfl ?_
    refine x_iload_n C.1 dX11_isWithin_6 2 rfl ?_
    refine x_icmp_gt C.1 (tgt := 14) dX11_isWithin_7 (by decide) hx hmost (fun c7_2 => ?_) (fun c7_2 => ?_)
    · refine x_iconst C.1 (n := 0) dX11_isWithin_14 ?_
      exact x_zret (S := Unit) (post := fun r _ => (r = 1 ∧ least ≤ x ∧ x ≤ most) ∨ (r = 0 ∧ ¬ (least ≤ x ∧ x ≤ most))) (w1 := fun _ : Unit => []) (a := 0) C hr rfl dX11_isWithin_15 (by decide) () rfl (by omega)
    · refine x_iconst C.1 (n := 1) dX11_isWithin_10 ?_
      refine x_goto C.1 (tgt := 15) dX11_isWithin_11 (by decide) ?_
      exact x_zret (S := Unit) (post := fun r _ => (r = 1 ∧ least ≤ x ∧ x ≤ most) ∨ (r = 0 ∧ ¬ (least ≤ x ∧ x ≤ most))) (w1 := fun _ : Unit => []) (a := 1) C hr rfl dX11_isWithin_15 (by decide) () rfl (by omega)
theorem dX11_isPlace_0 : decode cX11_isPlace 0 = .ok (.iload_n 0, 1) := by decide +kernel
theorem dX11_isPlace_1 : decode cX11_isPlace 1 = .ok (.ifCond .lt 12, 3) := by decide +kernel
theorem dX11_isPlace_4 : decode cX11_isPlace 4 = .ok (.iload_n 0, 1) := by decide +kernel
theorem dX11_isPlace_5 : decode cX11_isPlace 5 = .ok (.iload_n 1, 1) := by decide +kernel
theorem dX11_isPlace_6 : decode cX11_isPlace 6 = .ok (.if_icmp .ge 7, 3) := by decide +kernel
theorem dX11_isPlace_9 : decode cX11_isPlace 9 = .ok (.iconst 1, 1) := by decide +kernel
theorem dX11_isPlace_10 : decode cX11_isPlace 10 = .ok (.goto 4, 3) := by decide +kernel
theorem dX11_isPlace_13 : decode cX11_isPlace 13 = .ok (.iconst 0, 1) := by decide +kernel
theorem dX11_isPlace_14 : decode cX11_isPlace 14 = .ok (.ireturn, 1) := by decide +kernel
set_option maxHeartbeats 4000000 in
set_option maxRecDepth 100000 in
theorem c_isPlace (l : Launch) (D : va_G) (cy : Nat → ClassId) (x many : Int) (hx : R32 x) (hmany : R32 many) : xMi l D (xTY cy) yX11_isPlace cX11_isPlace 2 (some .boolean) 0 0 0 0 [vI x, vI many] [] (fun _ : Unit => []) (fun r _ => (r = 1 ∧ 0 ≤ x ∧ x < many) ∨ (r = 0 ∧ ¬ (0 ≤ x ∧ x < many))) := by
  refine xMi.mk (lv0 := [(0, vI x), (1, vI many)]) (by decide) rfl (Nat.le_of_ble_eq_true rfl) (fun p e s m below meth c A C hr hnm hAe => ?_)
  have C : xC2 p s m _ meth c D A s.heap 2 cX11_isPlace RX11 (xTY cy) := C
  refine x_iload_n C.1 dX11_isPlace_0 0 rfl ?_
  refine x_if_lt C.1 (tgt := 13) dX11_isPlace_1 (by decide) hx (fun c1_1 => ?_) (fun c1_1 => ?_)
  · refine x_iconst C.1 (n := 0) dX11_isPlace_13 ?_
    exact x_zret (S := Unit) (post := fun r _ => (r = 1 ∧ 0 ≤ x ∧ x < many) ∨ (r = 0 ∧ ¬ (0 ≤ x ∧ x < many))) (w1 := fun _ : Unit => []) (a := 0) C hr rfl dX11_isPlace_14 (by decide) () rfl (by omega)
  · refine x_iload_n C.1 dX11_isPlace_4 0 rfl ?_
    refine x_iload_n C.1 dX11_isPlace_5 1 rfl ?_
    refine x_icmp_ge C.1 (tgt := 13) dX11_isPlace_6 (by decide) hx hmany (fun c6_2 => ?_) (fun c6_2 => ?_)
    · refine x_iconst C.1 (n := 0) dX11_isPlace_13 ?_
      exact x_zret (S := Unit) (post := fun r _ => (r = 1 ∧ 0 ≤ x ∧ x < many) ∨ (r = 0 ∧ ¬ (0 ≤ x ∧ x < many))) (w1 := fun _ : Unit => []) (a := 0) C hr rfl dX11_isPlace_14 (by decide) () rfl (by omega)
    · refine x_iconst C.1 (n := 1) dX11_isPlace_9 ?_
      refine x_goto C.1 (tgt := 14) dX11_isPlace_10 (by decide) ?_
      exact x_zret (S := Unit) (post := fun r _ => (r = 1 ∧ 0 ≤ x ∧ x < many) ∨ (r = 0 ∧ ¬ (0 ≤ x ∧ x < many))) (w1 := fun _ : Unit => []) (a := 1) C hr rfl dX11_isPlace_14 (by decide) () rfl (by omega)
theorem hd_yX11_isPlace : yX11_isPlace.cls ≠ "java/lang/invoke/MethodHandle" ∧ yX11_isPlace.cls ≠ "java/lang/invoke/VarHandle" ∧ (parseMethodDescriptor yX11_isPlace.desc).map (fun d => d.parameters.length) = some 2 := by decide +kernel
theorem nst_X3_55 : (RX3, 55, yX11_isPlace, RX11) ∈ xNst := by simp [xNst]
theorem dX3_isPlant_0 : decode cX3_isPlant 0 = .ok (.iload_n 1, 1) := by decide +kernel
theorem dX3_isPlant_1 : decode cX3_isPlant 1 = .ok (.iconst 4, 1) := by decide +kernel
theorem dX3_isPlant_2 : decode cX3_isPlant 2 = .ok (.invokestatic 55, 3) := by decide +kernel
theorem dX3_isPlant_5 : decode cX3_isPlant 5 = .ok (.ifCond .eq 19, 3) := by decide +kernel
theorem dX3_isPlant_8 : decode cX3_isPlant 8 = .ok (.aload_n 0, 1) := by decide +kernel
theorem dX3_isPlant_9 : decode cX3_isPlant 9 = .ok (.getfield 11, 3) := by decide +kernel
theorem dX3_isPlant_12 : decode cX3_isPlant 12 = .ok (.iload_n 1, 1) := by decide +kernel
theorem dX3_isPlant_13 : decode cX3_isPlant 13 = .ok (.aaload, 1) := by decide +kernel
theorem dX3_isPlant_14 : decode cX3_isPlant 14 = .ok (.getfield 59, 3) := by decide +kernel
theorem dX3_isPlant_17 : decode cX3_isPlant 17 = .ok (.ifCond .eq 7, 3) := by decide +kernel
theorem dX3_isPlant_20 : decode cX3_isPlant 20 = .ok (.iconst 1, 1) := by decide +kernel
theorem dX3_isPlant_21 : decode cX3_isPlant 21 = .ok (.goto 4, 3) := by decide +kernel
theorem dX3_isPlant_24 : decode cX3_isPlant 24 = .ok (.iconst 0, 1) := by decide +kernel
theorem dX3_isPlant_25 : decode cX3_isPlant 25 = .ok (.ireturn, 1) := by decide +kernel
set_option maxHeartbeats 4000000 in
set_option maxRecDepth 100000 in
theorem c_isPlant (l : Launch) (D : va_G) (cy : Nat → ClassId) (ad : Nat → Nat) (V J : Nat → Nat → Int) (Rr : Nat → Nat → Nat) (hV : VR V) (hJ : VJ J) (b : Nat) (hb : isLa b) (x : Int) (hx : R32 x) : xMi l D (xTY cy) yX3_isPlant cX3_isPlant 2 (some .boolean) 1 21 0 0 [.ref (ad b), vI x] (XW cy ad V J Rr) (fun _ : Unit => XW cy ad V J Rr) (fun r _ => (r = 1 ∧ 0 ≤ x ∧ x < 4 ∧ V (b + 3 + 2 * x.toNat) 0 ≠ 0) ∨ (r = 0 ∧ ¬ (0 ≤ x ∧ x < 4 ∧ V (b + 3 + 2 * x.toNat) 0 ≠ 0))) := by
  refine xMi.mk (lv0 := [(0, .ref (ad b)), (1, vI x)]) (by decide) rfl (Nat.le_of_ble_eq_true rfl) (fun p e s m below meth c A C hr hnm hAe => ?_)
  have C : xC2 p s m _ meth c D A s.heap 2 cX3_isPlant RX3 (xTY cy) := C
  refine x_iload_n C.1 dX3_isPlant_0 1 rfl ?_
  refine x_iconst C.1 (n := 4) dX3_isPlant_1 ?_
  refine x_callSNi C (As := [vI x, vI 4]) (rest := []) (c_isPlace l D cy x 4 hx (by decide)) (l1 := []) (l2 := _) rfl (w2 := fun _ => _) (fun _ => rfl) rfl wm_yX11_isPlace wn_X11 (host := RX11) nst_X3_55 wi_yX11_isPlace hd_yX11_isPlace rfl ⟨Nat.le_of_ble_eq_true rfl, Nat.le_of_ble_eq_true rfl⟩ (Nat.le_of_ble_eq_true rfl) ⟨Nat.le_of_ble_eq_true rfl, Nat.le_of_ble_eq_true rfl⟩ dX3_isPlant_2 (fun r1 u1 hr1 h1 => ?_)
  rcases h1 with ⟨rfl, t1, t1b⟩ | ⟨rfl, t1⟩
  · refine x_if_eq_f C.1 (tgt := 24) dX3_isPlant_5 (by decide) (by decide) (by decide) ?_
    refine x_aload_n C.1 dX3_isPlant_8 0 rfl ?_
    refine x_getA C (N := 129) (i := b) (by omega) (xd_L hb) vc_X3 wx_X3 0 (by decide) wf_X3_11 (a := b + 1) rfl dX3_isPlant_9 ?_
    refine x_iload_n C.1 dX3_isPlant_12 1 rfl ?_
    refine x_aldS C (N := 129) (i := b + 1) (q := x) (t := 4) rfl (by omega) (xd_La hb) (by omega) (by decide) dX3_isPlant_13 (a := b + 3 + 2 * x.toNat) rfl ?_
    refine x_getI C (N := 129) (i := b + 3 + 2 * x.toNat) (Nat.lt_of_succ_lt (isPl_L hb (l := x.toNat) (by omega)).1) (isPl_L hb (l := x.toNat) (by omega)).2.1 vc_X5 wx_X5 0 (by decide) wf_X3_59 rfl dX3_isPlant_14 (a := V (b + 3 + 2 * x.toNat) 0) rfl ?_
    refine x_if_eq C.1 (tgt := 24) dX3_isPlant_17 (by decide) (hV _ _) (fun c17_2 => ?_) (fun c17_2 => ?_)
    · refine x_iconst C.1 (n := 0) dX3_isPlant_24 ?_
      exact x_zret (S := Unit) (post := fun r _ => (r = 1 ∧ 0 ≤ x ∧ x < 4 ∧ V (b + 3 + 2 * x.toNat) 0 ≠ 0) ∨ (r = 0 ∧ ¬ (0 ≤ x ∧ x < 4 ∧ V (b + 3 + 2 * x.toNat) 0 ≠ 0))) (w1 := fun _ : Unit => XW cy ad V J Rr) (a := 0) C hr rfl dX3_isPlant_25 (by decide) () rfl (by omega)
    · refine x_iconst C.1 (n := 1) dX3_isPlant_20 ?_
      refine x_goto C.1 (tgt := 25) dX3_isPlant_21 (by decide) ?_
      exact x_zret (S := Unit) (post := fun r _ => (r = 1 ∧ 0 ≤ x ∧ x < 4 ∧ V (b + 3 + 2 * x.toNat) 0 ≠ 0) ∨ (r = 0 ∧ ¬ (0 ≤ x ∧ x < 4 ∧ V (b + 3 + 2 * x.toNat) 0 ≠ 0))) (w1 := fun _ : Unit => XW cy ad V J Rr) (a := 1) C hr rfl dX3_isPlant_25 (by decide) () rfl (by omega)
  · refine x_if_eq_t C.1 (tgt := 24) dX3_isPlant_5 (by decide) (by decide) (by decide) ?_
    refine x_iconst C.1 (n := 0) dX3_isPlant_24 ?_
    exact x_zret (S := Unit) (post := fun r _ => (r = 1 ∧ 0 ≤ x ∧ x < 4 ∧ V (b + 3 + 2 * x.toNat) 0 ≠ 0) ∨ (r = 0 ∧ ¬ (0 ≤ x ∧ x < 4 ∧ V (b + 3 + 2 * x.toNat) 0 ≠ 0))) (w1 := fun _ : Unit => XW cy ad V J Rr) (a := 0) C hr rfl dX3_isPlant_25 (by decide) () rfl (by omega)
