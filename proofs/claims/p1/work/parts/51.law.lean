theorem hd_yX11_init : yX11_init.cls ≠ "java/lang/invoke/MethodHandle" ∧ yX11_init.cls ≠ "java/lang/invoke/VarHandle" ∧ (parseMethodDescriptor yX11_init.desc).map (fun d => d.parameters.length) = some 0 := by decide +kernel
theorem hd_yX12_init : yX12_init.cls ≠ "java/lang/invoke/MethodHandle" ∧ yX12_init.cls ≠ "java/lang/invoke/VarHandle" ∧ (parseMethodDescriptor yX12_init.desc).map (fun d => d.parameters.length) = some 0 := by decide +kernel
set_option maxHeartbeats 4000000 in
set_option maxRecDepth 100000 in
theorem law_body {p : Program} {e : Env} {s : State} {m : MethodId} {below : List Frame} {meth : Method} {c : Code} (l : Launch) (D : va_G) (cy : Nat → ClassId) {b L : Nat} {xs : Nat → Int32} (C : xC2 p s m #[Value.ref b] meth c D (fun q => s.heap.size ≤ q) s.heap 4 code RL (xTY cy)) (hr : meth.sig.returnType = ret) (hX : va_X b L xs s s.heap) (hbl : b < s.heap.size) (hbA : ¬ (fun q : Nat => s.heap.size ≤ q) b) (hL : L ≤ 6) (ux um : Nat → Nat) : xW p l e room_1 s m #[Value.ref b] below meth c D (fun q => s.heap.size ≤ q) s.heap 4 162 8366 (lw_Z below #[Value.ref b] s) (XW cy ux V0x J0 R0x ++ MW cy um V0m J0 R0m) 18 [(3, vI 0), (2, .ref (um 0)), (1, .ref (ux 0)), (0, .ref b)] [] := by
  refine x_iload_n C.1 dL_law_18 0 rfl ?_
  refine x_aload_n C.1 dL_law_19 3 rfl ?_
  refine x_slen C (b := b) hX hbl hbA dL_law_20 ?_
  refine x_bipush C.1 (n := 6) dL_law_21 ?_
  refine x_isub C.1 rfl dL_law_23 ?_
  refine x_icmp_gt C.1 (tgt := 1510) dL_law_24 (by decide) (by decide) (by omega) (fun hgt => ?_) (fun hgt => ?_)
  · refine x_iconst C.1 (n := 1) dL_law_1510 ?_
    exact x_lend C hr dL_law_1511 (Nat.le_of_ble_eq_true rfl) (Nat.le_of_ble_eq_true rfl)
  · refine x_aload_n C.1 dL_law_27 3 rfl ?_
    refine x_iload_n C.1 dL_law_28 0 rfl ?_
    refine x_sld C (b := b) (i := 0) hX hbl hbA (by omega) (by omega) dL_law_29 ?_
    rw [show (0 : Int).toNat = 0 from rfl]
    refine x_bipush C.1 (n := 63) dL_law_30 ?_
    refine x_iand C.1 rfl dL_law_32 ?_
    have hsw := iAnd_le (xs 0).toInt (q := 63) (by decide)
    by_cases hs0 : iAnd (xs 0).toInt 63 = 0
    · refine x_tabIn C.1 0 hs0 (by decide) (tgt := 180) dL_law_33 (by decide) (by decide) rfl (by decide) ?_
      exact law_case_0 l D cy C hr hX hbl hbA (by omega) ux um (162, 8366) rfl
    by_cases hs1 : iAnd (xs 0).toInt 63 = 1
    · refine x_tabIn C.1 1 hs1 (by decide) (tgt := 233) dL_law_33 (by decide) (by decide) rfl (by decide) ?_
      exact law_case_1 l D cy C hr hX hbl hbA (by omega) ux um (162, 8366) rfl
    by_cases hs2 : iAnd (xs 0).toInt 63 = 2
    · refine x_tabIn C.1 2 hs2 (by decide) (tgt := 276) dL_law_33 (by decide) (by decide) rfl (by decide) ?_
      exact law_case_2 l D cy C hr hX hbl hbA (by omega) ux um (162, 8366) rfl
    by_cases hs3 : iAnd (xs 0).toInt 63 = 3
    · refine x_tabIn C.1 3 hs3 (by decide) (tgt := 325) dL_law_33 (by decide) (by decide) rfl (by decide) ?_
      exact law_case_3 l D cy C hr hX hbl hbA (by omega) ux um (162, 8366) rfl
    by_cases hs4 : iAnd (xs 0).toInt 63 = 4
    · refine x_tabIn C.1 4 hs4 (by decide) (tgt := 358) dL_law_33 (by decide) (by decide) rfl (by decide) ?_
      exact law_case_4 l D cy C hr hX hbl hbA (by omega) ux um (162, 8366) rfl
    by_cases hs5 : iAnd (xs 0).toInt 63 = 5
    · refine x_tabIn C.1 5 hs5 (by decide) (tgt := 421) dL_law_33 (by decide) (by decide) rfl (by decide) ?_
      exact law_case_5 l D cy C hr hX hbl hbA (by omega) ux um (162, 8366) rfl
    by_cases hs6 : iAnd (xs 0).toInt 63 = 6
    · refine x_tabIn C.1 6 hs6 (by decide) (tgt := 444) dL_law_33 (by decide) (by decide) rfl (by decide) ?_
      exact law_case_6 l D cy C hr hX hbl hbA (by omega) ux um (162, 8366) rfl
    by_cases hs7 : iAnd (xs 0).toInt 63 = 7
    · refine x_tabIn C.1 7 hs7 (by decide) (tgt := 477) dL_law_33 (by decide) (by decide) rfl (by decide) ?_
      exact law_case_7 l D cy C hr hX hbl hbA (by omega) ux um (162, 8366) rfl
    by_cases hs8 : iAnd (xs 0).toInt 63 = 8
    · refine x_tabIn C.1 8 hs8 (by decide) (tgt := 500) dL_law_33 (by decide) (by decide) rfl (by decide) ?_
      exact law_case_8 l D cy C hr hX hbl hbA (by omega) ux um (162, 8366) rfl
    by_cases hs9 : iAnd (xs 0).toInt 63 = 9
    · refine x_tabIn C.1 9 hs9 (by decide) (tgt := 533) dL_law_33 (by decide) (by decide) rfl (by decide) ?_
      exact law_case_9 l D cy C hr hX hbl hbA (by omega) ux um (162, 8366) rfl
    by_cases hs10 : iAnd (xs 0).toInt 63 = 10
    · refine x_tabIn C.1 10 hs10 (by decide) (tgt := 566) dL_law_33 (by decide) (by decide) rfl (by decide) ?_
      exact law_case_10 l D cy C hr hX hbl hbA (by omega) ux um (162, 8366) rfl
    by_cases hs11 : iAnd (xs 0).toInt 63 = 11
    · refine x_tabIn C.1 11 hs11 (by decide) (tgt := 599) dL_law_33 (by decide) (by decide) rfl (by decide) ?_
      exact law_case_11 l D cy C hr hX hbl hbA (by omega) ux um (162, 8366) rfl
    by_cases hs12 : iAnd (xs 0).toInt 63 = 12
    · refine x_tabIn C.1 12 hs12 (by decide) (tgt := 653) dL_law_33 (by decide) (by decide) rfl (by decide) ?_
      exact law_case_12 l D cy C hr hX hbl hbA (by omega) ux um (162, 8366) rfl
    by_cases hs13 : iAnd (xs 0).toInt 63 = 13
    · refine x_tabIn C.1 13 hs13 (by decide) (tgt := 707) dL_law_33 (by decide) (by decide) rfl (by decide) ?_
      exact law_case_13 l D cy C hr hX hbl hbA (by omega) ux um (162, 8366) rfl
    by_cases hs14 : iAnd (xs 0).toInt 63 = 14
    · refine x_tabIn C.1 14 hs14 (by decide) (tgt := 761) dL_law_33 (by decide) (by decide) rfl (by decide) ?_
      exact law_case_14 l D cy C hr hX hbl hbA (by omega) ux um (162, 8366) rfl
    by_cases hs15 : iAnd (xs 0).toInt 63 = 15
    · refine x_tabIn C.1 15 hs15 (by decide) (tgt := 814) dL_law_33 (by decide) (by decide) rfl (by decide) ?_
      exact law_case_15 l D cy C hr hX hbl hbA (by omega) ux um (162, 8366) rfl
    by_cases hs16 : iAnd (xs 0).toInt 63 = 16
    · refine x_tabIn C.1 16 hs16 (by decide) (tgt := 868) dL_law_33 (by decide) (by decide) rfl (by decide) ?_
      exact law_case_16 l D cy C hr hX hbl hbA (by omega) ux um (162, 8366) rfl
    by_cases hs17 : iAnd (xs 0).toInt 63 = 17
    · refine x_tabIn C.1 17 hs17 (by decide) (tgt := 932) dL_law_33 (by decide) (by decide) rfl (by decide) ?_
      exact law_case_17 l D cy C hr hX hbl hbA (by omega) ux um (162, 8366) rfl
    by_cases hs18 : iAnd (xs 0).toInt 63 = 18
    · refine x_tabIn C.1 18 hs18 (by decide) (tgt := 965) dL_law_33 (by decide) (by decide) rfl (by decide) ?_
      exact law_case_18 l D cy C hr hX hbl hbA (by omega) ux um (162, 8366) rfl
    by_cases hs19 : iAnd (xs 0).toInt 63 = 19
    · refine x_tabIn C.1 19 hs19 (by decide) (tgt := 998) dL_law_33 (by decide) (by decide) rfl (by decide) ?_
      exact law_case_19 l D cy C hr hX hbl hbA (by omega) ux um (162, 8366) rfl
    by_cases hs20 : iAnd (xs 0).toInt 63 = 20
    · refine x_tabIn C.1 20 hs20 (by decide) (tgt := 1041) dL_law_33 (by decide) (by decide) rfl (by decide) ?_
      exact law_case_20 l D cy C hr hX hbl hbA (by omega) ux um (162, 8366) rfl
    by_cases hs21 : iAnd (xs 0).toInt 63 = 21
    · refine x_tabIn C.1 21 hs21 (by decide) (tgt := 1095) dL_law_33 (by decide) (by decide) rfl (by decide) ?_
      exact law_case_21 l D cy C hr hX hbl hbA (by omega) ux um (162, 8366) rfl
    by_cases hs22 : iAnd (xs 0).toInt 63 = 22
    · refine x_tabIn C.1 22 hs22 (by decide) (tgt := 1128) dL_law_33 (by decide) (by decide) rfl (by decide) ?_
      exact law_case_22 l D cy C hr hX hbl hbA (by omega) ux um (162, 8366) rfl
    by_cases hs23 : iAnd (xs 0).toInt 63 = 23
    · refine x_tabIn C.1 23 hs23 (by decide) (tgt := 1172) dL_law_33 (by decide) (by decide) rfl (by decide) ?_
      exact law_case_23 l D cy C hr hX hbl hbA (by omega) ux um (162, 8366) rfl
    by_cases hs24 : iAnd (xs 0).toInt 63 = 24
    · refine x_tabIn C.1 24 hs24 (by decide) (tgt := 1205) dL_law_33 (by decide) (by decide) rfl (by decide) ?_
      exact law_case_24 l D cy C hr hX hbl hbA (by omega) ux um (162, 8366) rfl
    by_cases hs25 : iAnd (xs 0).toInt 63 = 25
    · refine x_tabIn C.1 25 hs25 (by decide) (tgt := 1248) dL_law_33 (by decide) (by decide) rfl (by decide) ?_
      exact law_case_25 l D cy C hr hX hbl hbA (by omega) ux um (162, 8366) rfl
    by_cases hs26 : iAnd (xs 0).toInt 63 = 26
    · refine x_tabIn C.1 26 hs26 (by decide) (tgt := 1281) dL_law_33 (by decide) (by decide) rfl (by decide) ?_
      exact law_case_26 l D cy C hr hX hbl hbA (by omega) ux um (162, 8366) rfl
    by_cases hs27 : iAnd (xs 0).toInt 63 = 27
    · refine x_tabIn C.1 27 hs27 (by decide) (tgt := 1345) dL_law_33 (by decide) (by decide) rfl (by decide) ?_
      exact law_case_27 l D cy C hr hX hbl hbA (by omega) ux um (162, 8366) rfl
    by_cases hs28 : iAnd (xs 0).toInt 63 = 28
    · refine x_tabIn C.1 28 hs28 (by decide) (tgt := 1399) dL_law_33 (by decide) (by decide) rfl (by decide) ?_
      exact law_case_28 l D cy C hr hX hbl hbA (by omega) ux um (162, 8366) rfl
    by_cases hs29 : iAnd (xs 0).toInt 63 = 29
    · refine x_tabIn C.1 29 hs29 (by decide) (tgt := 1422) dL_law_33 (by decide) (by decide) rfl (by decide) ?_
      exact law_case_29 l D cy C hr hX hbl hbA (by omega) ux um (162, 8366) rfl
    by_cases hs30 : iAnd (xs 0).toInt 63 = 30
    · refine x_tabIn C.1 30 hs30 (by decide) (tgt := 1435) dL_law_33 (by decide) (by decide) rfl (by decide) ?_
      exact law_case_30 l D cy C hr hX hbl hbA (by omega) ux um (162, 8366) rfl
    by_cases hs31 : iAnd (xs 0).toInt 63 = 31
    · refine x_tabIn C.1 31 hs31 (by decide) (tgt := 1448) dL_law_33 (by decide) (by decide) rfl (by decide) ?_
      exact law_case_31 l D cy C hr hX hbl hbA (by omega) ux um (162, 8366) rfl
    by_cases hs32 : iAnd (xs 0).toInt 63 = 32
    · refine x_tabIn C.1 32 hs32 (by decide) (tgt := 1481) dL_law_33 (by decide) (by decide) rfl (by decide) ?_
      exact law_case_32 l D cy C hr hX hbl hbA (by omega) ux um (162, 8366) rfl
    refine x_tabOut C.1 (tgt := 1504) (xi_r _) dL_law_33 (Or.inr (by omega)) (by decide) ?_
    refine x_iinc C.1 (v := 6) (lv' := [(3, vI 6), (2, .ref (um 0)), (1, .ref (ux 0)), (0, .ref b)]) (by decide) dL_law_1504 0 rfl (by decide) rfl ?_
    refine x_goto C.1 (tgt := 18) dL_law_1507 (by decide) ?_
    refine x_iload_n C.1 dL_law_18 0 rfl ?_
    refine x_aload_n C.1 dL_law_19 3 rfl ?_
    refine x_slen C (b := b) hX hbl hbA dL_law_20 ?_
    refine x_bipush C.1 (n := 6) dL_law_21 ?_
    refine x_isub C.1 rfl dL_law_23 ?_
    refine x_icmp_gt_t C.1 (tgt := 1510) dL_law_24 (by decide) (by decide) (by omega) (by omega) ?_
    refine x_iconst C.1 (n := 1) dL_law_1510 ?_
    exact x_lend C hr dL_law_1511 (Nat.le_of_ble_eq_true rfl) (Nat.le_of_ble_eq_true rfl)
set_option maxHeartbeats 4000000 in
set_option maxRecDepth 100000 in
theorem whole_start {p : Program} {e : Env} {s : State} {m : MethodId} {below : List Frame} {meth : Method} {c : Code} (l : Launch) (hflags : l.flags = flags0) {b L : Nat} {xs : Nat → Int32} (hL : L ≤ 6) (C0 : lw_At p s m meth c b L xs) : W p l e room_1 s m #[Value.ref b] below meth c s.heap [] 0 0 (lw_Z below #[Value.ref b] s) (entryFrame m ([Value.ref b] : List Value).toArray 4) := by
  obtain ⟨hx, hb, hr, hml, hown, hts, hX, hbl, hlocks, hgv⟩ := id C0
  obtain ⟨D, cy, hK⟩ := law_K hts
  have hbA : ¬ (fun q : Nat => s.heap.size ≤ q) b := Nat.not_le.mpr hbl
  have C : xC2 p s m #[Value.ref b] meth c D (fun q => s.heap.size ≤ q) s.heap 4 code RL (xTY cy) := ⟨⟨hx, hb, hml, hown, fun w h => hts w (WG_in w h), hK.1, fun _ h => h, hlocks⟩, hK.2⟩
  have hP : va_P D vwCl [] s.heap := fun k q h => by simp at h
  have hD : va_D (fun q : Nat => s.heap.size ≤ q) [] := ⟨fun i j p q h => by simp at h, fun k q h => by simp at h⟩
  have hl := lv_entry ([.ref b]) (n := 4) (Nat.le_of_ble_eq_true rfl)
  rw [lg_entry_eq]
  generalize (lg_sl ([.ref b]) ++ List.replicate (4 - (lg_sl ([.ref b])).length) Slot.unset).toArray = ls at hl ⊢
  have hl : lv_has ls 4 [(0, .ref b)] := hl
  suffices h : xW p l e room_1 s m #[Value.ref b] below meth c D (fun q => s.heap.size ≤ q) s.heap 4 0 0 (lw_Z below #[Value.ref b] s) [] 0 [(0, .ref b)] [] from h s.heap [] ls hP hD va_S.rf hl
  refine x_gnew C (ci := 11) wk_L_7 wt_X11 wn_X11 wx_X11 tyX11 tyX11_ok vc_X11 (fs := [.null, .null, .null, vI 0, .null, .null, .null, .null, .null, .null, .null, .null]) (fun j hj => by rcases (show j = 0 ∨ j = 1 ∨ j = 2 ∨ j = 3 ∨ j = 4 ∨ j = 5 ∨ j = 6 ∨ j = 7 ∨ j = 8 ∨ j = 9 ∨ j = 10 ∨ j = 11 by omega) with rfl | rfl | rfl | rfl | rfl | rfl | rfl | rfl | rfl | rfl | rfl | rfl <;> rfl) (Nat.le_of_ble_eq_true rfl) (Nat.le_of_ble_eq_true rfl) dL_law_0 (ws2 := fun q1 => [(q1, .inr (11, [.null, .null, .null, vI 0, .null, .null, .null, .null, .null, .null, .null, .null]))]) (fun _ => rfl) (fun q1 => ?_)
  refine x_dup C.1 dL_law_3 rfl ?_
  refine x_callIv C (As := []) (rest := [.ref q1]) (k_X11 l D cy q1) (l1 := []) (l2 := []) rfl (w2 := fun ux => XW cy ux V0x J0 R0x) (fun _ => List.append_nil _) rfl wm_yX11_init wn_X11 wl_L_9 wi_yX11_init rfl hd_yX11_init rfl ⟨Nat.le_of_ble_eq_true rfl, Nat.le_of_ble_eq_true rfl⟩ (Nat.le_of_ble_eq_true rfl) ⟨Nat.le_of_ble_eq_true rfl, Nat.le_of_ble_eq_true rfl⟩ dL_law_4 (fun ux hux => ?_)
  subst hux
  refine x_astore_n C.1 (lv' := [(1, .ref (ux 0)), (0, .ref b)]) dL_law_7 (by decide) rfl ?_
  refine x_gnew C (ci := 12) wk_L_10 wt_X12 wn_X12 wx_X12 tyX12 tyX12_ok vc_X12 (fs := [.null, .null, .null, .null, vI 0, vI 0, vI 0, vI 0, vI 0, vI 0, vI 0, vI 0, vI 0, .null, .null, .null, .null, .null, .null, .null, .null, .null, .null, .null, .null, .null, .null, vI 0, vI 0, vI 0, .null, vI 0, vI 0, vI 0, vI 0, .null, .null, .null, .null, vJ 0, .null, .null, .null, .null, .null, .null, vI 0, vI 0, .null, vI 0, vI 0, .null, .null, vI 0]) (fun j hj => by rcases (show j = 0 ∨ j = 1 ∨ j = 2 ∨ j = 3 ∨ j = 4 ∨ j = 5 ∨ j = 6 ∨ j = 7 ∨ j = 8 ∨ j = 9 ∨ j = 10 ∨ j = 11 ∨ j = 12 ∨ j = 13 ∨ j = 14 ∨ j = 15 ∨ j = 16 ∨ j = 17 ∨ j = 18 ∨ j = 19 ∨ j = 20 ∨ j = 21 ∨ j = 22 ∨ j = 23 ∨ j = 24 ∨ j = 25 ∨ j = 26 ∨ j = 27 ∨ j = 28 ∨ j = 29 ∨ j = 30 ∨ j = 31 ∨ j = 32 ∨ j = 33 ∨ j = 34 ∨ j = 35 ∨ j = 36 ∨ j = 37 ∨ j = 38 ∨ j = 39 ∨ j = 40 ∨ j = 41 ∨ j = 42 ∨ j = 43 ∨ j = 44 ∨ j = 45 ∨ j = 46 ∨ j = 47 ∨ j = 48 ∨ j = 49 ∨ j = 50 ∨ j = 51 ∨ j = 52 ∨ j = 53 by omega) with rfl | rfl | rfl | rfl | rfl | rfl | rfl | rfl | rfl | rfl | rfl | rfl | rfl | rfl | rfl | rfl | rfl | rfl | rfl | rfl | rfl | rfl | rfl | rfl | rfl | rfl | rfl | rfl | rfl | rfl | rfl | rfl | rfl | rfl | rfl | rfl | rfl | rfl | rfl | rfl | rfl | rfl | rfl | rfl | rfl | rfl | rfl | rfl | rfl | rfl | rfl | rfl | rfl | rfl <;> rfl) (Nat.le_of_ble_eq_true rfl) (Nat.le_of_ble_eq_true rfl) dL_law_8 (ws2 := fun q2 => XW cy ux V0x J0 R0x ++ [(q2, .inr (12, [.null, .null, .null, .null, vI 0, vI 0, vI 0, vI 0, vI 0, vI 0, vI 0, vI 0, vI 0, .null, .null, .null, .null, .null, .null, .null, .null, .null, .null, .null, .null, .null, .null, vI 0, vI 0, vI 0, .null, vI 0, vI 0, vI 0, vI 0, .null, .null, .null, .null, vJ 0, .null, .null, .null, .null, .null, .null, vI 0, vI 0, .null, vI 0, vI 0, .null, .null, vI 0]))]) (fun _ => rfl) (fun q2 => ?_)
  refine x_dup C.1 dL_law_11 rfl ?_
  refine x_callIv C (As := []) (rest := [.ref q2]) (k_X12 l D cy q2) (l1 := XW cy ux V0x J0 R0x) (l2 := []) (List.append_nil _).symm (w2 := fun um => XW cy ux V0x J0 R0x ++ MW cy um V0m J0 R0m) (fun _ => List.append_nil _) rfl wm_yX12_init wn_X12 wl_L_12 wi_yX12_init rfl hd_yX12_init rfl ⟨Nat.le_of_ble_eq_true rfl, Nat.le_of_ble_eq_true rfl⟩ (Nat.le_of_ble_eq_true rfl) ⟨Nat.le_of_ble_eq_true rfl, Nat.le_of_ble_eq_true rfl⟩ dL_law_12 (fun um hum => ?_)
  subst hum
  refine x_astore_n C.1 (lv' := [(2, .ref (um 0)), (1, .ref (ux 0)), (0, .ref b)]) dL_law_15 (by decide) rfl ?_
  refine x_iconst C.1 (n := 0) dL_law_16 ?_
  refine x_istore_n C.1 (lv' := [(3, vI 0), (2, .ref (um 0)), (1, .ref (ux 0)), (0, .ref b)]) dL_law_17 (by decide) rfl ?_
  exact law_body l D cy C hr hX hbl hbA hL ux um
