theorem dX12_here_0 : decode cX12_here 0 = .ok (.aload_n 0, 1) := by decide +kernel
theorem dX12_here_1 : decode cX12_here 1 = .ok (.getfield 144, 3) := by decide +kernel
theorem dX12_here_4 : decode cX12_here 4 = .ok (.aload_n 0, 1) := by decide +kernel
theorem dX12_here_5 : decode cX12_here 5 = .ok (.getfield 147, 3) := by decide +kernel
theorem dX12_here_8 : decode cX12_here 8 = .ok (.if_icmp .ge 19, 3) := by decide +kernel
theorem dX12_here_11 : decode cX12_here 11 = .ok (.aload_n 0, 1) := by decide +kernel
theorem dX12_here_12 : decode cX12_here 12 = .ok (.getfield 19, 3) := by decide +kernel
theorem dX12_here_15 : decode cX12_here 15 = .ok (.aload_n 0, 1) := by decide +kernel
theorem dX12_here_16 : decode cX12_here 16 = .ok (.getfield 144, 3) := by decide +kernel
theorem dX12_here_19 : decode cX12_here 19 = .ok (.baload, 1) := by decide +kernel
theorem dX12_here_20 : decode cX12_here 20 = .ok (.sipush 255, 3) := by decide +kernel
theorem dX12_here_23 : decode cX12_here 23 = .ok (.iand, 1) := by decide +kernel
theorem dX12_here_24 : decode cX12_here 24 = .ok (.goto 4, 3) := by decide +kernel
theorem dX12_here_27 : decode cX12_here 27 = .ok (.iconst (-1), 1) := by decide +kernel
theorem dX12_here_28 : decode cX12_here 28 = .ok (.ireturn, 1) := by decide +kernel
set_option maxRecDepth 100000 in
def f_m_here (V : Nat → Nat → Int) (J : Nat → Nat → Int) (Rr : Nat → Nat → Nat) : (Int) → Prop :=
  rdb (V 0 5) fun z1 => fct (0 ≤ z1 ∧ z1 ≤ 220) <| rdb (V 0 6) fun z2 => fct (0 ≤ z2 ∧ z2 ≤ 220) <| (if z2 ≤ z1 then rtn ((-1)) else rdb (V 4 z1.toNat) fun z4 => fct (-128 ≤ z4 ∧ z4 ≤ 127) <| rdb (iAnd z4 255) fun z5 => fct (0 ≤ z5 ∧ z5 ≤ 255) <| rtn z5)
set_option maxHeartbeats 8000000 in
set_option maxRecDepth 100000 in
theorem m_here (l : Launch) (D : va_G) (cy : Nat → ClassId) (ad : Nat → Nat) (G : Nat → Nat → Int) (V J : Nat → Nat → Int) (Rr : Nat → Nat → Nat) (hI : MI G V) (hJ : VJ J) (hR : MR Rr)  : xMi l D (xTY cy) yX12_here cX12_here 1 (some .int) 0 0 0 0 [.ref (ad 0)] (MW cy ad V J Rr) (fun _ : Unit => MW cy ad V J Rr) (fun a (u : Unit) => (-1 ≤ a ∧ a ≤ 255) ∧ ((a = -1 ∧ V 0 6 ≤ V 0 5) ∨ (0 ≤ a ∧ V 0 5 < V 0 6)) ∧ a = hrM V ∧ (f_m_here V J Rr) a) := by
  refine xMi.mk (lv0 := [(0, .ref (ad 0))]) (by decide) rfl (Nat.le_of_ble_eq_true rfl) (fun p e s m below meth c A C hr hnm hAe => ?_)
  have C : xC2 p s m _ meth c D A s.heap 1 cX12_here RX12 (xTY cy) := C
  have hF := Imp.of_eq (f_m_here.eq_def V J Rr)
  refine x_aload_n C.1 dX12_here_0 0 rfl ?_
  obtain ⟨z1, ez1, bz1⟩ := hI.rd 0 5 (x := 0) (y := 220) rfl
  replace hF := hF.to (rdb_e (z := z1) ez1)
  replace hF := hF.fc bz1
  refine x_getI C (N := 33) (i := 0) (by decide) rfl vc_X12 wx_X12 5 (by decide) wf_X12_144 rfl dX12_here_1 (a := z1) ez1 ?_
  refine x_aload_n C.1 dX12_here_4 0 rfl ?_
  obtain ⟨z2, ez2, bz2⟩ := hI.rd 0 6 (x := 0) (y := 220) rfl
  replace hF := hF.to (rdb_e (z := z2) ez2)
  replace hF := hF.fc bz2
  refine x_getI C (N := 33) (i := 0) (by decide) rfl vc_X12 wx_X12 6 (by decide) wf_X12_147 rfl dX12_here_5 (a := z2) ez2 ?_
  refine x_icmp_ge C.1 (tgt := 27) dX12_here_8 (by decide) (by omega) (by omega) (fun hc3 => ?_) (fun hc3 => ?_)
  · replace hF := hF.to (if_pos hc3)
    refine x_iconst C.1 (n := -1) dX12_here_27 ?_
    exact x_iret (S := Unit) (post := (fun a (u : Unit) => (-1 ≤ a ∧ a ≤ 255) ∧ ((a = -1 ∧ V 0 6 ≤ V 0 5) ∨ (0 ≤ a ∧ V 0 5 < V 0 6)) ∧ a = hrM V ∧ (f_m_here V J Rr) a)) (w1 := (fun _ : Unit => MW cy ad V J Rr)) (a := (-1)) C hr rfl dX12_here_28 (by decide) () rfl ⟨⟨by decide, by decide⟩, (by omega), (by unfold hrM; rw [if_neg (by omega)]), hF _ rfl⟩
  · replace hF := hF.to (if_neg hc3)
    refine x_aload_n C.1 dX12_here_11 0 rfl ?_
    refine x_getA C (N := 33) (i := 0) (by decide) rfl vc_X12 wx_X12 3 (by decide) wf_X12_19 (a := 4) rfl dX12_here_12 ?_
    refine x_aload_n C.1 dX12_here_15 0 rfl ?_
    refine x_getI C (N := 33) (i := 0) (by decide) rfl vc_X12 wx_X12 5 (by decide) wf_X12_144 rfl dX12_here_16 (a := z1) ez1 ?_
    obtain ⟨z4, ez4, bz4⟩ := hI.rd 4 z1.toNat (x := -128) (y := 127) rfl
    replace hF := hF.to (rdb_e (z := z4) ez4)
    replace hF := hF.fc bz4
    refine x_bald C (N := 33) (i := 4) (q := z1) (by decide) rfl (by omega) (by decide) dX12_here_19 (a := z4) ez4 ?_
    refine x_sipush C.1 (n := 255) dX12_here_20 ?_
    obtain ⟨z5, hz5, bz5⟩ : ∃ z : Int, iAnd z4 255 = z ∧ (0 ≤ z ∧ z ≤ 255) := ⟨_, rfl, iAnd_leB _ (by decide)⟩
    replace hF := hF.to (rdb_e (z := z5) hz5)
    replace hF := hF.fc bz5
    refine x_iand C.1 (v := z5) hz5 dX12_here_23 ?_
    refine x_goto C.1 (tgt := 28) dX12_here_24 (by decide) ?_
    exact x_iret (S := Unit) (post := (fun a (u : Unit) => (-1 ≤ a ∧ a ≤ 255) ∧ ((a = -1 ∧ V 0 6 ≤ V 0 5) ∨ (0 ≤ a ∧ V 0 5 < V 0 6)) ∧ a = hrM V ∧ (f_m_here V J Rr) a)) (w1 := (fun _ : Unit => MW cy ad V J Rr)) (a := z5) C hr rfl dX12_here_28 (by omega) () rfl ⟨⟨by omega, by omega⟩, (by omega), (by unfold hrM; rw [if_pos (by omega)]; subst_vars; rfl), hF _ rfl⟩
theorem hd_yX12_here : yX12_here.cls ≠ "java/lang/invoke/MethodHandle" ∧ yX12_here.cls ≠ "java/lang/invoke/VarHandle" ∧ (parseMethodDescriptor yX12_here.desc).map (fun d => d.parameters.length) = some 0 := by decide +kernel
theorem dX12_isDigit_0 : decode cX12_isDigit 0 = .ok (.aload_n 0, 1) := by decide +kernel
theorem dX12_isDigit_1 : decode cX12_isDigit 1 = .ok (.invokevirtual 150, 3) := by decide +kernel
theorem dX12_isDigit_4 : decode cX12_isDigit 4 = .ok (.bipush 48, 2) := by decide +kernel
theorem dX12_isDigit_6 : decode cX12_isDigit 6 = .ok (.if_icmp .lt 16, 3) := by decide +kernel
theorem dX12_isDigit_9 : decode cX12_isDigit 9 = .ok (.aload_n 0, 1) := by decide +kernel
theorem dX12_isDigit_10 : decode cX12_isDigit 10 = .ok (.invokevirtual 150, 3) := by decide +kernel
theorem dX12_isDigit_13 : decode cX12_isDigit 13 = .ok (.bipush 57, 2) := by decide +kernel
theorem dX12_isDigit_15 : decode cX12_isDigit 15 = .ok (.if_icmp .gt 7, 3) := by decide +kernel
theorem dX12_isDigit_18 : decode cX12_isDigit 18 = .ok (.iconst 1, 1) := by decide +kernel
theorem dX12_isDigit_19 : decode cX12_isDigit 19 = .ok (.goto 4, 3) := by decide +kernel
theorem dX12_isDigit_22 : decode cX12_isDigit 22 = .ok (.iconst 0, 1) := by decide +kernel
theorem dX12_isDigit_23 : decode cX12_isDigit 23 = .ok (.ireturn, 1) := by decide +kernel
set_option maxRecDepth 100000 in
def f_m_isDigit (V : Nat → Nat → Int) (J : Nat → Nat → Int) (Rr : Nat → Nat → Nat) : (Int) → Prop :=
  calR (f_m_here V J Rr) fun z1 => fct (-1 ≤ z1 ∧ z1 ≤ 255) <| rdb (V 0 5) fun z2 => fct (0 ≤ z2 ∧ z2 ≤ 220) <| rdb (V 0 6) fun z3 => fct (0 ≤ z3 ∧ z3 ≤ 220) <| (if z1 < 48 then rtn 0 else calR (f_m_here V J Rr) fun z5 => fct (-1 ≤ z5 ∧ z5 ≤ 255) <| (if 57 < z5 then rtn 0 else rtn 1))
set_option maxHeartbeats 8000000 in
set_option maxRecDepth 100000 in
theorem m_isDigit (l : Launch) (D : va_G) (cy : Nat → ClassId) (ad : Nat → Nat) (G : Nat → Nat → Int) (V J : Nat → Nat → Int) (Rr : Nat → Nat → Nat) (hI : MI G V) (hJ : VJ J) (hR : MR Rr)  : xMi l D (xTY cy) yX12_isDigit cX12_isDigit 1 (some .boolean) 1 20 0 0 [.ref (ad 0)] (MW cy ad V J Rr) (fun _ : Unit => MW cy ad V J Rr) (fun a (u : Unit) => (0 ≤ a ∧ a ≤ 1) ∧ (Sq a (48 ≤ hrM V ∧ hrM V ≤ 57)) ∧ (f_m_isDigit V J Rr) a) := by
  refine xMi.mk (lv0 := [(0, .ref (ad 0))]) (by decide) rfl (Nat.le_of_ble_eq_true rfl) (fun p e s m below meth c A C hr hnm hAe => ?_)
  have C : xC2 p s m _ meth c D A s.heap 1 cX12_isDigit RX12 (xTY cy) := C
  have hF := Imp.of_eq (f_m_isDigit.eq_def V J Rr)
  refine x_aload_n C.1 dX12_isDigit_0 0 rfl ?_
  refine x_callVi C (As := []) (rest := []) 0 (xw_at (N := 33) (i := 0) (by decide) rfl) vc_X12 (m_here l D cy ad G V J Rr hI hJ hR ) (l1 := []) (l2 := []) (List.append_nil _).symm (w2 := fun _ => MW cy ad V J Rr) (fun _ => List.append_nil _) rfl wm_yX12_here wn_X12 wl_X12_150 wi_yX12_here we_yX12_here hd_yX12_here rfl ⟨Nat.le_of_ble_eq_true rfl, Nat.le_of_ble_eq_true rfl⟩ (Nat.le_of_ble_eq_true rfl) ⟨Nat.le_of_ble_eq_true rfl, Nat.le_of_ble_eq_true rfl⟩ dX12_isDigit_1 (fun z1 u1 bz1 h1 => ?_)
  obtain ⟨bq1, hx1_0, hx1_1, hFc1⟩ := h1
  replace hF := calR_i hF hFc1
  replace hF := hF.fc bq1
  obtain ⟨z2, ez2, bz2⟩ := hI.rd 0 5 (x := 0) (y := 220) rfl
  replace hF := hF.to (rdb_e (z := z2) ez2)
  replace hF := hF.fc bz2
  obtain ⟨z3, ez3, bz3⟩ := hI.rd 0 6 (x := 0) (y := 220) rfl
  replace hF := hF.to (rdb_e (z := z3) ez3)
  replace hF := hF.fc bz3
  rw [ez2, ez3] at hx1_0
  refine x_bipush C.1 (n := 48) dX12_isDigit_4 ?_
  refine x_icmp_lt C.1 (tgt := 22) dX12_isDigit_6 (by decide) (by omega) (by decide) (fun hc4 => ?_) (fun hc4 => ?_)
  · replace hF := hF.to (if_pos hc4)
    refine x_iconst C.1 (n := 0) dX12_isDigit_22 ?_
    exact x_zret (S := Unit) (post := (fun a (u : Unit) => (0 ≤ a ∧ a ≤ 1) ∧ (Sq a (48 ≤ hrM V ∧ hrM V ≤ 57)) ∧ (f_m_isDigit V J Rr) a)) (w1 := (fun _ : Unit => MW cy ad V J Rr)) (a := 0) C hr rfl dX12_isDigit_23 (by decide) () rfl ⟨⟨by decide, by decide⟩, (Or.inr ⟨rfl, by omega⟩), hF _ rfl⟩
  · replace hF := hF.to (if_neg hc4)
    refine x_aload_n C.1 dX12_isDigit_9 0 rfl ?_
    refine x_callVi C (As := []) (rest := []) 0 (xw_at (N := 33) (i := 0) (by decide) rfl) vc_X12 (m_here l D cy ad G V J Rr hI hJ hR ) (l1 := []) (l2 := []) (List.append_nil _).symm (w2 := fun _ => MW cy ad V J Rr) (fun _ => List.append_nil _) rfl wm_yX12_here wn_X12 wl_X12_150 wi_yX12_here we_yX12_here hd_yX12_here rfl ⟨Nat.le_of_ble_eq_true rfl, Nat.le_of_ble_eq_true rfl⟩ (Nat.le_of_ble_eq_true rfl) ⟨Nat.le_of_ble_eq_true rfl, Nat.le_of_ble_eq_true rfl⟩ dX12_isDigit_10 (fun z5 u5 bz5 h5 => ?_)
    obtain ⟨bq5, hx5_0, hx5_1, hFc5⟩ := h5
    replace hF := calR_i hF hFc5
    replace hF := hF.fc bq5
    rw [ez2, ez3] at hx5_0
    refine x_bipush C.1 (n := 57) dX12_isDigit_13 ?_
    refine x_icmp_gt C.1 (tgt := 22) dX12_isDigit_15 (by decide) (by omega) (by decide) (fun hc6 => ?_) (fun hc6 => ?_)
    · replace hF := hF.to (if_pos hc6)
      refine x_iconst C.1 (n := 0) dX12_isDigit_22 ?_
      exact x_zret (S := Unit) (post := (fun a (u : Unit) => (0 ≤ a ∧ a ≤ 1) ∧ (Sq a (48 ≤ hrM V ∧ hrM V ≤ 57)) ∧ (f_m_isDigit V J Rr) a)) (w1 := (fun _ : Unit => MW cy ad V J Rr)) (a := 0) C hr rfl dX12_isDigit_23 (by decide) () rfl ⟨⟨by decide, by decide⟩, (Or.inr ⟨rfl, by omega⟩), hF _ rfl⟩
    · replace hF := hF.to (if_neg hc6)
      refine x_iconst C.1 (n := 1) dX12_isDigit_18 ?_
      refine x_goto C.1 (tgt := 23) dX12_isDigit_19 (by decide) ?_
      exact x_zret (S := Unit) (post := (fun a (u : Unit) => (0 ≤ a ∧ a ≤ 1) ∧ (Sq a (48 ≤ hrM V ∧ hrM V ≤ 57)) ∧ (f_m_isDigit V J Rr) a)) (w1 := (fun _ : Unit => MW cy ad V J Rr)) (a := 1) C hr rfl dX12_isDigit_23 (by decide) () rfl ⟨⟨by decide, by decide⟩, (Or.inl ⟨rfl, by omega⟩), hF _ rfl⟩
theorem dX12_wrongAt_0 : decode cX12_wrongAt 0 = .ok (.aload_n 0, 1) := by decide +kernel
theorem dX12_wrongAt_1 : decode cX12_wrongAt 1 = .ok (.sipush (-1000), 3) := by decide +kernel
theorem dX12_wrongAt_4 : decode cX12_wrongAt 4 = .ok (.iload_n 1, 1) := by decide +kernel
theorem dX12_wrongAt_5 : decode cX12_wrongAt 5 = .ok (.imul, 1) := by decide +kernel
theorem dX12_wrongAt_6 : decode cX12_wrongAt 6 = .ok (.iload_n 2, 1) := by decide +kernel
theorem dX12_wrongAt_7 : decode cX12_wrongAt 7 = .ok (.isub, 1) := by decide +kernel
theorem dX12_wrongAt_8 : decode cX12_wrongAt 8 = .ok (.putfield 154, 3) := by decide +kernel
theorem dX12_wrongAt_11 : decode cX12_wrongAt 11 = .ok (.iconst 0, 1) := by decide +kernel
theorem dX12_wrongAt_12 : decode cX12_wrongAt 12 = .ok (.ireturn, 1) := by decide +kernel
set_option maxRecDepth 100000 in
def f_m_wrongAt (x1 : Int) (x2 : Int) (V : Nat → Nat → Int) (J : Nat → Nat → Int) (Rr : Nat → Nat → Nat) : (Int × (Nat → Nat → Int)) → Prop :=
  rdb (wr ((-1000) * x1)) fun z1 => rdb (wr (z1 - x2)) fun z2 => rdb (up2 V 0 7 z2) fun V3 => rtn (0, V3)
set_option maxHeartbeats 8000000 in
set_option maxRecDepth 100000 in
theorem m_wrongAt (l : Launch) (D : va_G) (cy : Nat → ClassId) (ad : Nat → Nat) (G : Nat → Nat → Int) (V J : Nat → Nat → Int) (Rr : Nat → Nat → Nat) (hI : MI G V) (hJ : VJ J) (hR : MR Rr) (x1 : Int) (bx1 : -2147483648 ≤ x1 ∧ x1 ≤ 2147483647) (x2 : Int) (bx2 : -2147483648 ≤ x2 ∧ x2 ≤ 2147483647) : xMi l D (xTY cy) yX12_wrongAt cX12_wrongAt 3 (some .boolean) 0 0 0 0 [.ref (ad 0), vI x1, vI x2] (MW cy ad V J Rr) (fun u : Nat → Nat → Int => MW cy ad u J Rr) (fun a (u : Nat → Nat → Int) => MI G u ∧ (0 ≤ a ∧ a ≤ 0) ∧ (∀ i k : Nat, (i ≠ 0 ∨ k ≠ 7) → u i k = V i k) ∧ FBm 128 V u ∧ (f_m_wrongAt x1 x2 V J Rr) (a, u)) := by
  refine xMi.mk (lv0 := [(0, .ref (ad 0)), (1, vI x1), (2, vI x2)]) (by decide) rfl (Nat.le_of_ble_eq_true rfl) (fun p e s m below meth c A C hr hnm hAe => ?_)
  have C : xC2 p s m _ meth c D A s.heap 3 cX12_wrongAt RX12 (xTY cy) := C
  have hB : FBm 128 V V := FBm.rf _ _
  have hF := Imp.of_eq (f_m_wrongAt.eq_def x1 x2 V J Rr)
  refine x_aload_n C.1 dX12_wrongAt_0 0 rfl ?_
  refine x_sipush C.1 (n := -1000) dX12_wrongAt_1 ?_
  refine x_iload_n C.1 dX12_wrongAt_4 1 rfl ?_
  refine x_imul C.1 (v := (-1000) * x1) (by omega) dX12_wrongAt_5 ?_
  refine x_wrapg ?_
  intro z1 bz1 ew1
  replace hF := hF.to (rdb_e (z := z1) ew1.symm)
  refine x_iload_n C.1 dX12_wrongAt_6 2 rfl ?_
  refine x_isub C.1 (v := z1 - x2) (by omega) dX12_wrongAt_7 ?_
  refine x_wrapg ?_
  intro z2 bz2 ew2
  replace hF := hF.to (rdb_e (z := z2) ew2.symm)
  refine x_putI C (N := 33) (i := 0) (by decide) rfl vc_X12 wx_X12 7 (by decide) wf_X12_154 tyX12 tyX12_ok nmX12 rfl (tyX12_ok 7 (by decide)) rfl dX12_wrongAt_8 rfl rfl ?_
  refine x_gV ?_
  intro V3 hV3
  have hI3 : MI G V3 := hI.up hV3 rfl (by omega) rfl (Or.inl (by decide))
  have hB3 := hB.up hV3 rfl
  replace hF := hF.to (rdb_e (z := V3) hV3.symm)
  refine x_iconst C.1 (n := 0) dX12_wrongAt_11 ?_
  exact x_zret (S := (Nat → Nat → Int)) (post := (fun a (u : Nat → Nat → Int) => MI G u ∧ (0 ≤ a ∧ a ≤ 0) ∧ (∀ i k : Nat, (i ≠ 0 ∨ k ≠ 7) → u i k = V i k) ∧ FBm 128 V u ∧ (f_m_wrongAt x1 x2 V J Rr) (a, u))) (w1 := (fun u : Nat → Nat → Int => MW cy ad u J Rr)) (a := 0) C hr rfl dX12_wrongAt_12 (by decide) V3 rfl ⟨hI3, ⟨by decide, by decide⟩, (fun i k h => (congrFun (congrFun hV3 i) k).trans (up2_n _ _ h)), hB3, hF _ rfl⟩
theorem dX12_isDayAt_0 : decode cX12_isDayAt 0 = .ok (.iload_n 0, 1) := by decide +kernel
theorem dX12_isDayAt_1 : decode cX12_isDayAt 1 = .ok (.bipush 46, 2) := by decide +kernel
theorem dX12_isDayAt_3 : decode cX12_isDayAt 3 = .ok (.if_icmp .eq 25, 3) := by decide +kernel
theorem dX12_isDayAt_6 : decode cX12_isDayAt 6 = .ok (.iload_n 0, 1) := by decide +kernel
theorem dX12_isDayAt_7 : decode cX12_isDayAt 7 = .ok (.bipush 97, 2) := by decide +kernel
theorem dX12_isDayAt_9 : decode cX12_isDayAt 9 = .ok (.bipush 104, 2) := by decide +kernel
theorem dX12_isDayAt_11 : decode cX12_isDayAt 11 = .ok (.invokestatic 126, 3) := by decide +kernel
theorem dX12_isDayAt_14 : decode cX12_isDayAt 14 = .ok (.ifCond .ne 14, 3) := by decide +kernel
theorem dX12_isDayAt_17 : decode cX12_isDayAt 17 = .ok (.iload_n 0, 1) := by decide +kernel
theorem dX12_isDayAt_18 : decode cX12_isDayAt 18 = .ok (.bipush 50, 2) := by decide +kernel
theorem dX12_isDayAt_20 : decode cX12_isDayAt 20 = .ok (.bipush 55, 2) := by decide +kernel
theorem dX12_isDayAt_22 : decode cX12_isDayAt 22 = .ok (.invokestatic 126, 3) := by decide +kernel
theorem dX12_isDayAt_25 : decode cX12_isDayAt 25 = .ok (.ifCond .eq 7, 3) := by decide +kernel
theorem dX12_isDayAt_28 : decode cX12_isDayAt 28 = .ok (.iconst 1, 1) := by decide +kernel
theorem dX12_isDayAt_29 : decode cX12_isDayAt 29 = .ok (.goto 4, 3) := by decide +kernel
theorem dX12_isDayAt_32 : decode cX12_isDayAt 32 = .ok (.iconst 0, 1) := by decide +kernel
theorem dX12_isDayAt_33 : decode cX12_isDayAt 33 = .ok (.ireturn, 1) := by decide +kernel
set_option maxRecDepth 100000 in
def f_m_isDayAt (x0 : Int) : (Int) → Prop :=
  (if x0 = 46 then rtn 1 else calR (f_m_in x0 97 104) fun z2 => fct (0 ≤ z2 ∧ z2 ≤ 1) <| (if ¬ z2 = 0 then rtn 1 else calR (f_m_in x0 50 55) fun z6 => fct (0 ≤ z6 ∧ z6 ≤ 1) <| (if z6 = 0 then rtn 0 else rtn 1)))
set_option maxHeartbeats 8000000 in
set_option maxRecDepth 100000 in
theorem m_isDayAt (l : Launch) (D : va_G) (cy : Nat → ClassId) (x0 : Int) (bx0 : -2147483648 ≤ x0 ∧ x0 ≤ 2147483647) : xMi l D (xTY cy) yX12_isDayAt cX12_isDayAt 1 (some .boolean) 1 22 0 0 [vI x0] [] (fun _ : Unit => []) (fun a (u : Unit) => (0 ≤ a ∧ a ≤ 1) ∧ (Sq a (x0 = 46 ∨ (97 ≤ x0 ∧ x0 ≤ 104) ∨ (50 ≤ x0 ∧ x0 ≤ 55))) ∧ (f_m_isDayAt x0) a) := by
  refine xMi.mk (lv0 := [(0, vI x0)]) (by decide) rfl (Nat.le_of_ble_eq_true rfl) (fun p e s m below meth c A C hr hnm hAe => ?_)
  have C : xC2 p s m _ meth c D A s.heap 1 cX12_isDayAt RX12 (xTY cy) := C
  have hF := Imp.of_eq (f_m_isDayAt.eq_def x0)
  refine x_iload_n C.1 dX12_isDayAt_0 0 rfl ?_
  refine x_bipush C.1 (n := 46) dX12_isDayAt_1 ?_
  refine x_icmp_eq C.1 (tgt := 28) dX12_isDayAt_3 (by decide) (by omega) (by decide) (fun hc1 => ?_) (fun hc1 => ?_)
  · replace hF := hF.to (if_pos hc1)
    refine x_iconst C.1 (n := 1) dX12_isDayAt_28 ?_
    refine x_goto C.1 (tgt := 33) dX12_isDayAt_29 (by decide) ?_
    exact x_zret (S := Unit) (post := (fun a (u : Unit) => (0 ≤ a ∧ a ≤ 1) ∧ (Sq a (x0 = 46 ∨ (97 ≤ x0 ∧ x0 ≤ 104) ∨ (50 ≤ x0 ∧ x0 ≤ 55))) ∧ (f_m_isDayAt x0) a)) (w1 := (fun _ : Unit => [])) (a := 1) C hr rfl dX12_isDayAt_33 (by decide) () rfl ⟨⟨by decide, by decide⟩, (Or.inl ⟨rfl, by omega⟩), hF _ rfl⟩
  · replace hF := hF.to (if_neg hc1)
    refine x_iload_n C.1 dX12_isDayAt_6 0 rfl ?_
    refine x_bipush C.1 (n := 97) dX12_isDayAt_7 ?_
    refine x_bipush C.1 (n := 104) dX12_isDayAt_9 ?_
    refine x_callSi C (As := [vI x0, vI 97, vI 104]) (rest := []) (m_in l D cy x0 ⟨by omega, by omega⟩ 97 ⟨by decide, by decide⟩ 104 ⟨by decide, by decide⟩) (l1 := []) (l2 := _) rfl (w2 := fun _ => _) (fun _ => rfl) rfl wm_yX12_in wn_X12 wl_X12_126 wi_yX12_in hd_yX12_in rfl ⟨Nat.le_of_ble_eq_true rfl, Nat.le_of_ble_eq_true rfl⟩ (Nat.le_of_ble_eq_true rfl) ⟨Nat.le_of_ble_eq_true rfl, Nat.le_of_ble_eq_true rfl⟩ dX12_isDayAt_11 (fun z2 u2 bz2 h2 => ?_)
    obtain ⟨bq2, hx2_0, hFc2⟩ := h2
    replace hF := calR_i hF hFc2
    replace hF := hF.fc bq2
    refine x_if_ne C.1 (tgt := 28) dX12_isDayAt_14 (by decide) (by omega) (fun hc3 => ?_) (fun hc3 => ?_)
    · replace hF := hF.to (if_pos hc3)
      have hon4 := Sq.on hx2_0 (by omega)
      refine x_iconst C.1 (n := 1) dX12_isDayAt_28 ?_
      refine x_goto C.1 (tgt := 33) dX12_isDayAt_29 (by decide) ?_
      exact x_zret (S := Unit) (post := (fun a (u : Unit) => (0 ≤ a ∧ a ≤ 1) ∧ (Sq a (x0 = 46 ∨ (97 ≤ x0 ∧ x0 ≤ 104) ∨ (50 ≤ x0 ∧ x0 ≤ 55))) ∧ (f_m_isDayAt x0) a)) (w1 := (fun _ : Unit => [])) (a := 1) C hr rfl dX12_isDayAt_33 (by decide) () rfl ⟨⟨by decide, by decide⟩, (Or.inl ⟨rfl, by omega⟩), hF _ rfl⟩
    · replace hF := hF.to (if_neg (fun hh => hh hc3))
      have hof5 := Sq.off hx2_0 (by omega)
      refine x_iload_n C.1 dX12_isDayAt_17 0 rfl ?_
      refine x_bipush C.1 (n := 50) dX12_isDayAt_18 ?_
      refine x_bipush C.1 (n := 55) dX12_isDayAt_20 ?_
      refine x_callSi C (As := [vI x0, vI 50, vI 55]) (rest := []) (m_in l D cy x0 ⟨by omega, by omega⟩ 50 ⟨by decide, by decide⟩ 55 ⟨by decide, by decide⟩) (l1 := []) (l2 := _) rfl (w2 := fun _ => _) (fun _ => rfl) rfl wm_yX12_in wn_X12 wl_X12_126 wi_yX12_in hd_yX12_in rfl ⟨Nat.le_of_ble_eq_true rfl, Nat.le_of_ble_eq_true rfl⟩ (Nat.le_of_ble_eq_true rfl) ⟨Nat.le_of_ble_eq_true rfl, Nat.le_of_ble_eq_true rfl⟩ dX12_isDayAt_22 (fun z6 u6 bz6 h6 => ?_)
      obtain ⟨bq6, hx6_0, hFc6⟩ := h6
      replace hF := calR_i hF hFc6
      replace hF := hF.fc bq6
      refine x_if_eq C.1 (tgt := 32) dX12_isDayAt_25 (by decide) (by omega) (fun hc7 => ?_) (fun hc7 => ?_)
      · replace hF := hF.to (if_pos hc7)
        have hof8 := Sq.off hx6_0 (by omega)
        refine x_iconst C.1 (n := 0) dX12_isDayAt_32 ?_
        exact x_zret (S := Unit) (post := (fun a (u : Unit) => (0 ≤ a ∧ a ≤ 1) ∧ (Sq a (x0 = 46 ∨ (97 ≤ x0 ∧ x0 ≤ 104) ∨ (50 ≤ x0 ∧ x0 ≤ 55))) ∧ (f_m_isDayAt x0) a)) (w1 := (fun _ : Unit => [])) (a := 0) C hr rfl dX12_isDayAt_33 (by decide) () rfl ⟨⟨by decide, by decide⟩, (Or.inr ⟨rfl, by omega⟩), hF _ rfl⟩
      · replace hF := hF.to (if_neg hc7)
        have hon9 := Sq.on hx6_0 (by omega)
        refine x_iconst C.1 (n := 1) dX12_isDayAt_28 ?_
        refine x_goto C.1 (tgt := 33) dX12_isDayAt_29 (by decide) ?_
        exact x_zret (S := Unit) (post := (fun a (u : Unit) => (0 ≤ a ∧ a ≤ 1) ∧ (Sq a (x0 = 46 ∨ (97 ≤ x0 ∧ x0 ≤ 104) ∨ (50 ≤ x0 ∧ x0 ≤ 55))) ∧ (f_m_isDayAt x0) a)) (w1 := (fun _ : Unit => [])) (a := 1) C hr rfl dX12_isDayAt_33 (by decide) () rfl ⟨⟨by decide, by decide⟩, (Or.inl ⟨rfl, by omega⟩), hF _ rfl⟩
theorem hd_yX12_bits : yX12_bits.cls ≠ "java/lang/invoke/MethodHandle" ∧ yX12_bits.cls ≠ "java/lang/invoke/VarHandle" ∧ (parseMethodDescriptor yX12_bits.desc).map (fun d => d.parameters.length) = some 1 := by decide +kernel
theorem dX12_feels_0 : decode cX12_feels 0 = .ok (.iconst 0, 1) := by decide +kernel
theorem dX12_feels_1 : decode cX12_feels 1 = .ok (.istore_n 1, 1) := by decide +kernel
theorem dX12_feels_2 : decode cX12_feels 2 = .ok (.iload_n 1, 1) := by decide +kernel
theorem dX12_feels_3 : decode cX12_feels 3 = .ok (.bipush 13, 2) := by decide +kernel
theorem dX12_feels_5 : decode cX12_feels 5 = .ok (.if_icmp .ge 16, 3) := by decide +kernel
theorem dX12_feels_8 : decode cX12_feels 8 = .ok (.aload_n 0, 1) := by decide +kernel
theorem dX12_feels_9 : decode cX12_feels 9 = .ok (.getfield 62, 3) := by decide +kernel
theorem dX12_feels_12 : decode cX12_feels 12 = .ok (.iload_n 1, 1) := by decide +kernel
theorem dX12_feels_13 : decode cX12_feels 13 = .ok (.iconst 0, 1) := by decide +kernel
theorem dX12_feels_14 : decode cX12_feels 14 = .ok (.iastore, 1) := by decide +kernel
theorem dX12_feels_15 : decode cX12_feels 15 = .ok (.iinc 1 1, 3) := by decide +kernel
theorem dX12_feels_18 : decode cX12_feels 18 = .ok (.goto (-16), 3) := by decide +kernel
theorem dX12_feels_21 : decode cX12_feels 21 = .ok (.aload_n 0, 1) := by decide +kernel
theorem dX12_feels_22 : decode cX12_feels 22 = .ok (.getfield 62, 3) := by decide +kernel
theorem dX12_feels_25 : decode cX12_feels 25 = .ok (.iconst 0, 1) := by decide +kernel
theorem dX12_feels_26 : decode cX12_feels 26 = .ok (.aload_n 0, 1) := by decide +kernel
theorem dX12_feels_27 : decode cX12_feels 27 = .ok (.getfield 7, 3) := by decide +kernel
theorem dX12_feels_30 : decode cX12_feels 30 = .ok (.bipush 79, 2) := by decide +kernel
theorem dX12_feels_32 : decode cX12_feels 32 = .ok (.iaload, 1) := by decide +kernel
theorem dX12_feels_33 : decode cX12_feels 33 = .ok (.iastore, 1) := by decide +kernel
theorem dX12_feels_34 : decode cX12_feels 34 = .ok (.aload_n 0, 1) := by decide +kernel
theorem dX12_feels_35 : decode cX12_feels 35 = .ok (.getfield 62, 3) := by decide +kernel
theorem dX12_feels_38 : decode cX12_feels 38 = .ok (.iconst 1, 1) := by decide +kernel
theorem dX12_feels_39 : decode cX12_feels 39 = .ok (.aload_n 0, 1) := by decide +kernel
theorem dX12_feels_40 : decode cX12_feels 40 = .ok (.getfield 7, 3) := by decide +kernel
theorem dX12_feels_43 : decode cX12_feels 43 = .ok (.bipush 79, 2) := by decide +kernel
theorem dX12_feels_45 : decode cX12_feels 45 = .ok (.iaload, 1) := by decide +kernel
theorem dX12_feels_46 : decode cX12_feels 46 = .ok (.bipush 7, 2) := by decide +kernel
theorem dX12_feels_48 : decode cX12_feels 48 = .ok (.irem, 1) := by decide +kernel
theorem dX12_feels_49 : decode cX12_feels 49 = .ok (.iastore, 1) := by decide +kernel
theorem dX12_feels_50 : decode cX12_feels 50 = .ok (.aload_n 0, 1) := by decide +kernel
theorem dX12_feels_51 : decode cX12_feels 51 = .ok (.getfield 62, 3) := by decide +kernel
theorem dX12_feels_54 : decode cX12_feels 54 = .ok (.bipush 10, 2) := by decide +kernel
theorem dX12_feels_56 : decode cX12_feels 56 = .ok (.aload_n 0, 1) := by decide +kernel
theorem dX12_feels_57 : decode cX12_feels 57 = .ok (.getfield 7, 3) := by decide +kernel
theorem dX12_feels_60 : decode cX12_feels 60 = .ok (.bipush 78, 2) := by decide +kernel
theorem dX12_feels_62 : decode cX12_feels 62 = .ok (.iaload, 1) := by decide +kernel
theorem dX12_feels_63 : decode cX12_feels 63 = .ok (.invokestatic 247, 3) := by decide +kernel
theorem dX12_feels_66 : decode cX12_feels 66 = .ok (.iastore, 1) := by decide +kernel
theorem dX12_feels_67 : decode cX12_feels 67 = .ok (.return_, 1) := by decide +kernel
set_option maxRecDepth 100000 in
def f_m_feels (V : Nat → Nat → Int) (J : Nat → Nat → Int) (Rr : Nat → Nat → Nat) : (Nat → Nat → Int) → Prop :=
  lop2 (15) (fun rc31 (z30 : Int) (V31 : Nat → Nat → Int) => (if 13 ≤ z30 then rdb (V31 1 79) fun z44 => rdb (up2 V31 18 0 z44) fun V45 => rdb (iRem z44 7) fun z46 => fct (-6 ≤ z46 ∧ z46 ≤ 6) <| rdb (up2 V45 18 1 z46) fun V47 => rdb (V47 1 78) fun z48 => calR (f_m_bits z48) fun z49 => rdb (up2 V47 18 10 z49) fun V50 => rtn V50 else rdb (up2 V31 18 z30.toNat 0) fun V51 => rc31 (z30 + 1) V51)) 0 V
set_option maxHeartbeats 8000000 in
set_option maxRecDepth 100000 in
theorem m_feels (l : Launch) (D : va_G) (cy : Nat → ClassId) (ad : Nat → Nat) (G : Nat → Nat → Int) (V J : Nat → Nat → Int) (Rr : Nat → Nat → Nat) {K : Nat → Nat → Int} (hI : AI K G V) (hJ : VJ J) (hR : MR Rr)  : xMv l D (xTY cy) yX12_feels cX12_feels 2 none 1 22 0 0 [.ref (ad 0)] (MW cy ad V J Rr) (fun u : Nat → Nat → Int => MW cy ad u J Rr) (fun u : Nat → Nat → Int => AI K G u ∧ FBm 4835703278458516698824704 V u ∧ (f_m_feels V J Rr) u) := by
  refine xMv.mk (lv0 := [(0, .ref (ad 0))]) (by decide) rfl (Nat.le_of_ble_eq_true rfl) (fun p e s m below meth c A C hr hnm hAe => ?_)
  have C : xC2 p s m _ meth c D A s.heap 2 cX12_feels RX12 (xTY cy) := C
  have hB : FBm 4835703278458516698824704 V V := FBm.rf _ _
  have hF := Imp.of_eq (f_m_feels.eq_def V J Rr)
  refine x_iconst C.1 (n := 0) dX12_feels_0 ?_
  refine x_istore_n C.1 (lv' := [(1, vI 0), (0, .ref (ad 0))]) dX12_feels_1 (by decide) rfl ?_
  obtain ⟨bd31, hbd31, hF⟩ := lop2_ex hF
  refine x_loop (I := fun x : Int × (Nat → Nat → Int) => match x with | (z30, V31) => (0 ≤ z30 ∧ z30 ≤ 13) ∧ AI K G V31 ∧ FBm 4835703278458516698824704 V V31 ∧ (∃ nf : Nat, (14 - z30).toNat < nf ∧ Imp (lop2 nf bd31 z30 V31) (f_m_feels V J Rr))) (μ := fun x : Int × (Nat → Nat → Int) => match x with | (z30, V31) => (14 - z30).toNat) (wsf := fun x : Int × (Nat → Nat → Int) => match x with | (z30, V31) => MW cy ad V31 J Rr) (lvf := fun x : Int × (Nat → Nat → Int) => match x with | (z30, V31) => [(1, vI z30), (0, .ref (ad 0))]) (fun x hI31x ih31 => ?_) (0, V) ⟨⟨by decide, by decide⟩, hI, hB, ⟨_, (by omega), hF⟩⟩ rfl rfl
  obtain ⟨z30, V31⟩ := x
  obtain ⟨bz30, hI31, hB31, nf31, hn31, hF⟩ := hI31x
  try dsimp only
  obtain ⟨nf31, rfl⟩ : ∃ mm, nf31 = mm + 1 := ⟨nf31 - 1, (Nat.succ_pred_eq_of_pos (Nat.lt_of_le_of_lt (Nat.zero_le _) hn31)).symm⟩
  replace hF := hF.to (lop2_s hbd31)
  refine x_iload_n C.1 dX12_feels_2 0 rfl ?_
  refine x_bipush C.1 (n := 13) dX12_feels_3 ?_
  refine x_icmp_ge C.1 (tgt := 21) dX12_feels_5 (by decide) (by omega) (by decide) (fun hc43 => ?_) (fun hc43 => ?_)
  · replace hF := hF.to (if_pos hc43)
    refine x_aload_n C.1 dX12_feels_21 1 rfl ?_
    refine x_getA C (N := 33) (i := 0) (by decide) rfl vc_X12 wx_X12 26 (by decide) wf_X12_62 (a := 18) rfl dX12_feels_22 ?_
    refine x_iconst C.1 (n := 0) dX12_feels_25 ?_
    refine x_aload_n C.1 dX12_feels_26 1 rfl ?_
    refine x_getA C (N := 33) (i := 0) (by decide) rfl vc_X12 wx_X12 0 (by decide) wf_X12_7 (a := 1) rfl dX12_feels_27 ?_
    refine x_bipush C.1 (n := 79) dX12_feels_30 ?_
    obtain ⟨z44, ez44, bz44⟩ := hI31.rd 1 79 (x := -2147483648) (y := 2147483647) (rgN_81 (Or.inl rfl) (by decide))
    replace hF := hF.to (rdb_e (z := z44) ez44)
    refine x_iald C (N := 33) (i := 1) (q := 79) (by decide) rfl (by decide) (by decide) dX12_feels_32 (a := z44) ez44 ?_
    refine x_iast C (N := 33) (i := 18) (q := 0) (a := z44) (by decide) rfl (by decide) (by decide) dX12_feels_33 ?_
    rw [show (0 : Int).toNat = 0 from rfl]
    refine x_gV ?_
    intro V45 hV45
    have hI45 : AI K G V45 := hI31.up hV45 rfl (by omega) rfl (Or.inl (by decide))
    have hB45 := hB31.up hV45 (by rw [mkey_r (by decide)]; rfl)
    replace hF := hF.to (rdb_e (z := V45) hV45.symm)
    refine x_aload_n C.1 dX12_feels_34 1 rfl ?_
    refine x_getA C (N := 33) (i := 0) (by decide) rfl vc_X12 wx_X12 26 (by decide) wf_X12_62 (a := 18) rfl dX12_feels_35 ?_
    refine x_iconst C.1 (n := 1) dX12_feels_38 ?_
    refine x_aload_n C.1 dX12_feels_39 1 rfl ?_
    refine x_getA C (N := 33) (i := 0) (by decide) rfl vc_X12 wx_X12 0 (by decide) wf_X12_7 (a := 1) rfl dX12_feels_40 ?_
    refine x_bipush C.1 (n := 79) dX12_feels_43 ?_
    refine x_iald C (N := 33) (i := 1) (q := 79) (by decide) rfl (by decide) (by decide) dX12_feels_45 (a := z44) ((congrFun (congrFun hV45 1) 79).trans ((up2_n _ _ (Or.inl (by decide))).trans ez44)) ?_
    refine x_bipush C.1 (n := 7) dX12_feels_46 ?_
    obtain ⟨z46, hz46, bz46⟩ : ∃ z : Int, iRem z44 7 = z ∧ (-6 ≤ z ∧ z ≤ 6) := ⟨_, rfl, iRem_m (by omega) (by omega)⟩
    replace hF := hF.to (rdb_e (z := z46) hz46)
    replace hF := hF.fc bz46
    refine x_irem C.1 (v := z46) hz46 dX12_feels_48 (by decide) (by decide) ?_
    refine x_iast C (N := 33) (i := 18) (q := 1) (a := z46) (by decide) rfl (by decide) (by decide) dX12_feels_49 ?_
    rw [show (1 : Int).toNat = 1 from rfl]
    refine x_gV ?_
    intro V47 hV47
    have hI47 : AI K G V47 := hI45.up hV47 rfl (by omega) rfl (Or.inl (by decide))
    have hB47 := hB45.up hV47 (by rw [mkey_r (by decide)]; rfl)
    replace hF := hF.to (rdb_e (z := V47) hV47.symm)
    refine x_aload_n C.1 dX12_feels_50 1 rfl ?_
    refine x_getA C (N := 33) (i := 0) (by decide) rfl vc_X12 wx_X12 26 (by decide) wf_X12_62 (a := 18) rfl dX12_feels_51 ?_
    refine x_bipush C.1 (n := 10) dX12_feels_54 ?_
    refine x_aload_n C.1 dX12_feels_56 1 rfl ?_
    refine x_getA C (N := 33) (i := 0) (by decide) rfl vc_X12 wx_X12 0 (by decide) wf_X12_7 (a := 1) rfl dX12_feels_57 ?_
    refine x_bipush C.1 (n := 78) dX12_feels_60 ?_
    obtain ⟨z48, ez48, bz48⟩ := hI47.rd 1 78 (x := -2147483648) (y := 2147483647) (rgN_81 (Or.inl rfl) (by decide))
    replace hF := hF.to (rdb_e (z := z48) ez48)
    refine x_iald C (N := 33) (i := 1) (q := 78) (by decide) rfl (by decide) (by decide) dX12_feels_62 (a := z48) ez48 ?_
    refine x_callSi C (As := [vI z48]) (rest := [vI 10, .ref (ad 18)]) (m_bits l D cy z48 ⟨by omega, by omega⟩) (l1 := []) (l2 := _) rfl (w2 := fun _ => _) (fun _ => rfl) rfl wm_yX12_bits wn_X12 wl_X12_247 wi_yX12_bits hd_yX12_bits rfl ⟨Nat.le_of_ble_eq_true rfl, Nat.le_of_ble_eq_true rfl⟩ (Nat.le_of_ble_eq_true rfl) ⟨Nat.le_of_ble_eq_true rfl, Nat.le_of_ble_eq_true rfl⟩ dX12_feels_63 (fun z49 u49 bz49 h49 => ?_)
    have hFc49 := h49
    replace hF := calR_i hF hFc49
    refine x_iast C (N := 33) (i := 18) (q := 10) (a := z49) (by decide) rfl (by decide) (by decide) dX12_feels_66 ?_
    rw [show (10 : Int).toNat = 10 from rfl]
    refine x_gV ?_
    intro V50 hV50
    have hI50 : AI K G V50 := hI47.up hV50 rfl (by omega) rfl (Or.inl (by decide))
    have hB50 := hB47.up hV50 (by rw [mkey_r (by decide)]; rfl)
    replace hF := hF.to (rdb_e (z := V50) hV50.symm)
    exact x_vret (S := (Nat → Nat → Int)) (post := (fun u : Nat → Nat → Int => AI K G u ∧ FBm 4835703278458516698824704 V u ∧ (f_m_feels V J Rr) u)) (w1 := (fun u : Nat → Nat → Int => MW cy ad u J Rr)) C hr rfl dX12_feels_67 V50 rfl ⟨hI50, hB50, hF _ rfl⟩
  · replace hF := hF.to (if_neg hc43)
    refine x_aload_n C.1 dX12_feels_8 1 rfl ?_
    refine x_getA C (N := 33) (i := 0) (by decide) rfl vc_X12 wx_X12 26 (by decide) wf_X12_62 (a := 18) rfl dX12_feels_9 ?_
    refine x_iload_n C.1 dX12_feels_12 0 rfl ?_
    refine x_iconst C.1 (n := 0) dX12_feels_13 ?_
    refine x_iast C (N := 33) (i := 18) (q := z30) (a := 0) (by decide) rfl (by omega) (by decide) dX12_feels_14 ?_
    refine x_gV ?_
    intro V51 hV51
    have hI51 : AI K G V51 := hI31.up hV51 rfl (by decide) rfl (Or.inl (by decide))
    have hB51 := hB31.up hV51 (by rw [mkey_r (by decide)]; rfl)
    replace hF := hF.to (rdb_e (z := V51) hV51.symm)
    refine x_iinc C.1 (v := z30 + 1) (lv' := [(1, vI (z30 + 1)), (0, .ref (ad 0))]) (by omega) dX12_feels_15 0 rfl (by decide) rfl ?_
    refine x_goto C.1 (tgt := 2) dX12_feels_18 (by decide) ?_
    have hmu31 : (14 - (z30 + 1)).toNat < (14 - z30).toNat := (by omega)
    exact ih31 (z30 + 1, V51) ⟨⟨by omega, by omega⟩, hI51, hB51, ⟨nf31, Nat.lt_of_lt_of_le hmu31 (Nat.le_of_lt_succ hn31), hF⟩⟩ hmu31
theorem hd_yX12_feels : yX12_feels.cls ≠ "java/lang/invoke/MethodHandle" ∧ yX12_feels.cls ≠ "java/lang/invoke/VarHandle" ∧ (parseMethodDescriptor yX12_feels.desc).map (fun d => d.parameters.length) = some 0 := by decide +kernel
theorem dX12_feelsPlant_0 : decode cX12_feelsPlant 0 = .ok (.aload_n 0, 1) := by decide +kernel
theorem dX12_feelsPlant_1 : decode cX12_feelsPlant 1 = .ok (.invokevirtual 250, 3) := by decide +kernel
theorem dX12_feelsPlant_4 : decode cX12_feelsPlant 4 = .ok (.aload_n 0, 1) := by decide +kernel
theorem dX12_feelsPlant_5 : decode cX12_feelsPlant 5 = .ok (.getfield 62, 3) := by decide +kernel
theorem dX12_feelsPlant_8 : decode cX12_feelsPlant 8 = .ok (.iconst 2, 1) := by decide +kernel
theorem dX12_feelsPlant_9 : decode cX12_feelsPlant 9 = .ok (.iload_n 1, 1) := by decide +kernel
theorem dX12_feelsPlant_10 : decode cX12_feelsPlant 10 = .ok (.iastore, 1) := by decide +kernel
theorem dX12_feelsPlant_11 : decode cX12_feelsPlant 11 = .ok (.aload_n 0, 1) := by decide +kernel
theorem dX12_feelsPlant_12 : decode cX12_feelsPlant 12 = .ok (.getfield 62, 3) := by decide +kernel
theorem dX12_feelsPlant_15 : decode cX12_feelsPlant 15 = .ok (.iconst 3, 1) := by decide +kernel
theorem dX12_feelsPlant_16 : decode cX12_feelsPlant 16 = .ok (.aload_n 0, 1) := by decide +kernel
theorem dX12_feelsPlant_17 : decode cX12_feelsPlant 17 = .ok (.getfield 7, 3) := by decide +kernel
theorem dX12_feelsPlant_20 : decode cX12_feelsPlant 20 = .ok (.iconst 0, 1) := by decide +kernel
theorem dX12_feelsPlant_21 : decode cX12_feelsPlant 21 = .ok (.iload_n 1, 1) := by decide +kernel
theorem dX12_feelsPlant_22 : decode cX12_feelsPlant 22 = .ok (.iadd, 1) := by decide +kernel
theorem dX12_feelsPlant_23 : decode cX12_feelsPlant 23 = .ok (.iaload, 1) := by decide +kernel
theorem dX12_feelsPlant_24 : decode cX12_feelsPlant 24 = .ok (.iastore, 1) := by decide +kernel
theorem dX12_feelsPlant_25 : decode cX12_feelsPlant 25 = .ok (.aload_n 0, 1) := by decide +kernel
theorem dX12_feelsPlant_26 : decode cX12_feelsPlant 26 = .ok (.getfield 62, 3) := by decide +kernel
theorem dX12_feelsPlant_29 : decode cX12_feelsPlant 29 = .ok (.iconst 4, 1) := by decide +kernel
theorem dX12_feelsPlant_30 : decode cX12_feelsPlant 30 = .ok (.aload_n 0, 1) := by decide +kernel
theorem dX12_feelsPlant_31 : decode cX12_feelsPlant 31 = .ok (.getfield 7, 3) := by decide +kernel
theorem dX12_feelsPlant_34 : decode cX12_feelsPlant 34 = .ok (.iconst 4, 1) := by decide +kernel
theorem dX12_feelsPlant_35 : decode cX12_feelsPlant 35 = .ok (.iload_n 1, 1) := by decide +kernel
theorem dX12_feelsPlant_36 : decode cX12_feelsPlant 36 = .ok (.iadd, 1) := by decide +kernel
theorem dX12_feelsPlant_37 : decode cX12_feelsPlant 37 = .ok (.iaload, 1) := by decide +kernel
theorem dX12_feelsPlant_38 : decode cX12_feelsPlant 38 = .ok (.iastore, 1) := by decide +kernel
theorem dX12_feelsPlant_39 : decode cX12_feelsPlant 39 = .ok (.aload_n 0, 1) := by decide +kernel
theorem dX12_feelsPlant_40 : decode cX12_feelsPlant 40 = .ok (.getfield 62, 3) := by decide +kernel
theorem dX12_feelsPlant_43 : decode cX12_feelsPlant 43 = .ok (.iconst 5, 1) := by decide +kernel
theorem dX12_feelsPlant_44 : decode cX12_feelsPlant 44 = .ok (.aload_n 0, 1) := by decide +kernel
theorem dX12_feelsPlant_45 : decode cX12_feelsPlant 45 = .ok (.getfield 7, 3) := by decide +kernel
theorem dX12_feelsPlant_48 : decode cX12_feelsPlant 48 = .ok (.bipush 24, 2) := by decide +kernel
theorem dX12_feelsPlant_50 : decode cX12_feelsPlant 50 = .ok (.bipush 7, 2) := by decide +kernel
theorem dX12_feelsPlant_52 : decode cX12_feelsPlant 52 = .ok (.iload_n 1, 1) := by decide +kernel
theorem dX12_feelsPlant_53 : decode cX12_feelsPlant 53 = .ok (.imul, 1) := by decide +kernel
theorem dX12_feelsPlant_54 : decode cX12_feelsPlant 54 = .ok (.iadd, 1) := by decide +kernel
theorem dX12_feelsPlant_55 : decode cX12_feelsPlant 55 = .ok (.bipush 6, 2) := by decide +kernel
theorem dX12_feelsPlant_57 : decode cX12_feelsPlant 57 = .ok (.iadd, 1) := by decide +kernel
theorem dX12_feelsPlant_58 : decode cX12_feelsPlant 58 = .ok (.iaload, 1) := by decide +kernel
theorem dX12_feelsPlant_59 : decode cX12_feelsPlant 59 = .ok (.iastore, 1) := by decide +kernel
theorem dX12_feelsPlant_60 : decode cX12_feelsPlant 60 = .ok (.aload_n 0, 1) := by decide +kernel
theorem dX12_feelsPlant_61 : decode cX12_feelsPlant 61 = .ok (.getfield 62, 3) := by decide +kernel
theorem dX12_feelsPlant_64 : decode cX12_feelsPlant 64 = .ok (.bipush 6, 2) := by decide +kernel
theorem dX12_feelsPlant_66 : decode cX12_feelsPlant 66 = .ok (.aload_n 0, 1) := by decide +kernel
theorem dX12_feelsPlant_67 : decode cX12_feelsPlant 67 = .ok (.getfield 7, 3) := by decide +kernel
theorem dX12_feelsPlant_70 : decode cX12_feelsPlant 70 = .ok (.bipush 12, 2) := by decide +kernel
theorem dX12_feelsPlant_72 : decode cX12_feelsPlant 72 = .ok (.iload_n 1, 1) := by decide +kernel
theorem dX12_feelsPlant_73 : decode cX12_feelsPlant 73 = .ok (.iadd, 1) := by decide +kernel
theorem dX12_feelsPlant_74 : decode cX12_feelsPlant 74 = .ok (.iaload, 1) := by decide +kernel
theorem dX12_feelsPlant_75 : decode cX12_feelsPlant 75 = .ok (.iastore, 1) := by decide +kernel
theorem dX12_feelsPlant_76 : decode cX12_feelsPlant 76 = .ok (.aload_n 0, 1) := by decide +kernel
theorem dX12_feelsPlant_77 : decode cX12_feelsPlant 77 = .ok (.getfield 62, 3) := by decide +kernel
theorem dX12_feelsPlant_80 : decode cX12_feelsPlant 80 = .ok (.bipush 7, 2) := by decide +kernel
theorem dX12_feelsPlant_82 : decode cX12_feelsPlant 82 = .ok (.aload_n 0, 1) := by decide +kernel
theorem dX12_feelsPlant_83 : decode cX12_feelsPlant 83 = .ok (.getfield 7, 3) := by decide +kernel
theorem dX12_feelsPlant_86 : decode cX12_feelsPlant 86 = .ok (.bipush 16, 2) := by decide +kernel
theorem dX12_feelsPlant_88 : decode cX12_feelsPlant 88 = .ok (.iload_n 1, 1) := by decide +kernel
theorem dX12_feelsPlant_89 : decode cX12_feelsPlant 89 = .ok (.iadd, 1) := by decide +kernel
theorem dX12_feelsPlant_90 : decode cX12_feelsPlant 90 = .ok (.iaload, 1) := by decide +kernel
theorem dX12_feelsPlant_91 : decode cX12_feelsPlant 91 = .ok (.iastore, 1) := by decide +kernel
theorem dX12_feelsPlant_92 : decode cX12_feelsPlant 92 = .ok (.aload_n 0, 1) := by decide +kernel
theorem dX12_feelsPlant_93 : decode cX12_feelsPlant 93 = .ok (.getfield 62, 3) := by decide +kernel
theorem dX12_feelsPlant_96 : decode cX12_feelsPlant 96 = .ok (.bipush 11, 2) := by decide +kernel
theorem dX12_feelsPlant_98 : decode cX12_feelsPlant 98 = .ok (.aload_n 0, 1) := by decide +kernel
theorem dX12_feelsPlant_99 : decode cX12_feelsPlant 99 = .ok (.getfield 7, 3) := by decide +kernel
theorem dX12_feelsPlant_102 : decode cX12_feelsPlant 102 = .ok (.bipush 20, 2) := by decide +kernel
theorem dX12_feelsPlant_104 : decode cX12_feelsPlant 104 = .ok (.iload_n 1, 1) := by decide +kernel
theorem dX12_feelsPlant_105 : decode cX12_feelsPlant 105 = .ok (.iadd, 1) := by decide +kernel
theorem dX12_feelsPlant_106 : decode cX12_feelsPlant 106 = .ok (.iaload, 1) := by decide +kernel
theorem dX12_feelsPlant_107 : decode cX12_feelsPlant 107 = .ok (.ifCond .ge 8, 3) := by decide +kernel
theorem dX12_feelsPlant_110 : decode cX12_feelsPlant 110 = .ok (.bipush 99, 2) := by decide +kernel
theorem dX12_feelsPlant_112 : decode cX12_feelsPlant 112 = .ok (.goto 20, 3) := by decide +kernel
theorem dX12_feelsPlant_115 : decode cX12_feelsPlant 115 = .ok (.aload_n 0, 1) := by decide +kernel
theorem dX12_feelsPlant_116 : decode cX12_feelsPlant 116 = .ok (.getfield 7, 3) := by decide +kernel
theorem dX12_feelsPlant_119 : decode cX12_feelsPlant 119 = .ok (.bipush 79, 2) := by decide +kernel
theorem dX12_feelsPlant_121 : decode cX12_feelsPlant 121 = .ok (.iaload, 1) := by decide +kernel
theorem dX12_feelsPlant_122 : decode cX12_feelsPlant 122 = .ok (.aload_n 0, 1) := by decide +kernel
theorem dX12_feelsPlant_123 : decode cX12_feelsPlant 123 = .ok (.getfield 7, 3) := by decide +kernel
theorem dX12_feelsPlant_126 : decode cX12_feelsPlant 126 = .ok (.bipush 20, 2) := by decide +kernel
theorem dX12_feelsPlant_128 : decode cX12_feelsPlant 128 = .ok (.iload_n 1, 1) := by decide +kernel
theorem dX12_feelsPlant_129 : decode cX12_feelsPlant 129 = .ok (.iadd, 1) := by decide +kernel
theorem dX12_feelsPlant_130 : decode cX12_feelsPlant 130 = .ok (.iaload, 1) := by decide +kernel
theorem dX12_feelsPlant_131 : decode cX12_feelsPlant 131 = .ok (.isub, 1) := by decide +kernel
theorem dX12_feelsPlant_132 : decode cX12_feelsPlant 132 = .ok (.iastore, 1) := by decide +kernel
theorem dX12_feelsPlant_133 : decode cX12_feelsPlant 133 = .ok (.return_, 1) := by decide +kernel
set_option maxRecDepth 100000 in
def f_m_feelsPlant (x1 : Int) (V : Nat → Nat → Int) (J : Nat → Nat → Int) (Rr : Nat → Nat → Nat) : (Nat → Nat → Int) → Prop :=
  calUM 4835703278458516698824704 V (f_m_feels V J Rr) fun V1 => rdb (up2 V1 18 2 x1) fun V2 => rdb (V2 1 x1.toNat) fun z3 => fct (0 ≤ z3 ∧ z3 ≤ 24) <| rdb (up2 V2 18 3 z3) fun V4 => rdb (V4 1 ((x1 + 4).toNat)) fun z5 => fct (0 ≤ z5 ∧ z5 ≤ 24) <| rdb (up2 V4 18 4 z5) fun V6 => rdb (V6 1 ((7 * x1 + 30).toNat)) fun z7 => rdb (up2 V6 18 5 z7) fun V8 => rdb (V8 1 ((x1 + 12).toNat)) fun z9 => fct (0 ≤ z9 ∧ z9 ≤ 9) <| rdb (up2 V8 18 6 z9) fun V10 => rdb (V10 1 ((x1 + 16).toNat)) fun z11 => fct (0 ≤ z11 ∧ z11 ≤ 9) <| rdb (up2 V10 18 7 z11) fun V12 => rdb (V12 1 ((x1 + 20).toNat)) fun z13 => (if 0 ≤ z13 then rdb (V12 1 79) fun z15 => rdb (wr (z15 - z13)) fun z16 => rdb (up2 V12 18 11 z16) fun V17 => rtn V17 else rdb (up2 V12 18 11 99) fun V18 => rtn V18)
set_option maxHeartbeats 8000000 in
set_option maxRecDepth 100000 in
theorem m_feelsPlant (l : Launch) (D : va_G) (cy : Nat → ClassId) (ad : Nat → Nat) (G : Nat → Nat → Int) (V J : Nat → Nat → Int) (Rr : Nat → Nat → Nat) {K : Nat → Nat → Int} (hI : AI K G V) (hJ : VJ J) (hR : MR Rr) (x1 : Int) (bx1 : 0 ≤ x1 ∧ x1 ≤ 3) : xMv l D (xTY cy) yX12_feelsPlant cX12_feelsPlant 2 none 2 43 0 0 [.ref (ad 0), vI x1] (MW cy ad V J Rr) (fun u : Nat → Nat → Int => MW cy ad u J Rr) (fun u : Nat → Nat → Int => AI K G u ∧ FBm 4835703278458516698824704 V u ∧ (f_m_feelsPlant x1 V J Rr) u) := by
  refine xMv.mk (lv0 := [(0, .ref (ad 0)), (1, vI x1)]) (by decide) rfl (Nat.le_of_ble_eq_true rfl) (fun p e s m below meth c A C hr hnm hAe => ?_)
  have C : xC2 p s m _ meth c D A s.heap 2 cX12_feelsPlant RX12 (xTY cy) := C
  have hB : FBm 4835703278458516698824704 V V := FBm.rf _ _
  have hF := Imp.of_eq (f_m_feelsPlant.eq_def x1 V J Rr)
  refine x_aload_n C.1 dX12_feelsPlant_0 0 rfl ?_
  refine x_callVv C (As := []) (rest := []) 0 (xw_at (N := 33) (i := 0) (by decide) rfl) vc_X12 (m_feels l D cy ad G V J Rr (KI.self hI.1) hJ hR ) (l1 := []) (l2 := []) (List.append_nil _).symm (w2 := fun u : Nat → Nat → Int => MW cy ad u J Rr) (fun _ => List.append_nil _) rfl wm_yX12_feels wn_X12 wl_X12_250 wi_yX12_feels we_yX12_feels hd_yX12_feels rfl ⟨Nat.le_of_ble_eq_true rfl, Nat.le_of_ble_eq_true rfl⟩ (Nat.le_of_ble_eq_true rfl) ⟨Nat.le_of_ble_eq_true rfl, Nat.le_of_ble_eq_true rfl⟩ dX12_feelsPlant_1 (fun V1 h1 => ?_)
  obtain ⟨hI1, hBc1, hFc1⟩ := h1
  replace hF := calUM_i hF hFc1 hBc1
  have hB1 := hB.tr hBc1 (m := 4835703278458516698824704) rfl
  have hI1c : AI K G V1 := KI.back hI1 hI sub_AA
  refine x_aload_n C.1 dX12_feelsPlant_4 0 rfl ?_
  refine x_getA C (N := 33) (i := 0) (by decide) rfl vc_X12 wx_X12 26 (by decide) wf_X12_62 (a := 18) rfl dX12_feelsPlant_5 ?_
  refine x_iconst C.1 (n := 2) dX12_feelsPlant_8 ?_
  refine x_iload_n C.1 dX12_feelsPlant_9 1 rfl ?_
  refine x_iast C (N := 33) (i := 18) (q := 2) (a := x1) (by decide) rfl (by decide) (by decide) dX12_feelsPlant_10 ?_
  rw [show (2 : Int).toNat = 2 from rfl]
  refine x_gV ?_
  intro V2 hV2
  have hI2 : AI K G V2 := hI1c.up hV2 rfl (by omega) rfl (Or.inl (by decide))
  have hB2 := hB1.up hV2 (by rw [mkey_r (by decide)]; rfl)
  replace hF := hF.to (rdb_e (z := V2) hV2.symm)
  refine x_aload_n C.1 dX12_feelsPlant_11 0 rfl ?_
  refine x_getA C (N := 33) (i := 0) (by decide) rfl vc_X12 wx_X12 26 (by decide) wf_X12_62 (a := 18) rfl dX12_feelsPlant_12 ?_
  refine x_iconst C.1 (n := 3) dX12_feelsPlant_15 ?_
  refine x_aload_n C.1 dX12_feelsPlant_16 0 rfl ?_
  refine x_getA C (N := 33) (i := 0) (by decide) rfl vc_X12 wx_X12 0 (by decide) wf_X12_7 (a := 1) rfl dX12_feelsPlant_17 ?_
  refine x_iconst C.1 (n := 0) dX12_feelsPlant_20 ?_
  refine x_iload_n C.1 dX12_feelsPlant_21 1 rfl ?_
  refine x_iadd C.1 (v := x1) (by omega) dX12_feelsPlant_22 ?_
  obtain ⟨z3, ez3, bz3⟩ := hI2.rd 1 x1.toNat (x := 0) (y := 24) (rgN_8 (Or.inl rfl) (by omega))
  replace hF := hF.to (rdb_e (z := z3) ez3)
  replace hF := hF.fc bz3
  refine x_iald C (N := 33) (i := 1) (q := x1) (by decide) rfl (by omega) (by decide) dX12_feelsPlant_23 (a := z3) ez3 ?_
  refine x_iast C (N := 33) (i := 18) (q := 3) (a := z3) (by decide) rfl (by decide) (by decide) dX12_feelsPlant_24 ?_
  rw [show (3 : Int).toNat = 3 from rfl]
  refine x_gV ?_
  intro V4 hV4
  have hI4 : AI K G V4 := hI2.up hV4 rfl (by omega) rfl (Or.inl (by decide))
  have hB4 := hB2.up hV4 (by rw [mkey_r (by decide)]; rfl)
  replace hF := hF.to (rdb_e (z := V4) hV4.symm)
  refine x_aload_n C.1 dX12_feelsPlant_25 0 rfl ?_
  refine x_getA C (N := 33) (i := 0) (by decide) rfl vc_X12 wx_X12 26 (by decide) wf_X12_62 (a := 18) rfl dX12_feelsPlant_26 ?_
  refine x_iconst C.1 (n := 4) dX12_feelsPlant_29 ?_
  refine x_aload_n C.1 dX12_feelsPlant_30 0 rfl ?_
  refine x_getA C (N := 33) (i := 0) (by decide) rfl vc_X12 wx_X12 0 (by decide) wf_X12_7 (a := 1) rfl dX12_feelsPlant_31 ?_
  refine x_iconst C.1 (n := 4) dX12_feelsPlant_34 ?_
  refine x_iload_n C.1 dX12_feelsPlant_35 1 rfl ?_
  refine x_iadd C.1 (v := x1 + 4) (by omega) dX12_feelsPlant_36 ?_
  obtain ⟨z5, ez5, bz5⟩ := hI4.rd 1 ((x1 + 4).toNat) (x := 0) (y := 24) (rgN_8 (Or.inl rfl) (by omega))
  replace hF := hF.to (rdb_e (z := z5) ez5)
  replace hF := hF.fc bz5
  refine x_iald C (N := 33) (i := 1) (q := x1 + 4) (by decide) rfl (by omega) (by decide) dX12_feelsPlant_37 (a := z5) ez5 ?_
  refine x_iast C (N := 33) (i := 18) (q := 4) (a := z5) (by decide) rfl (by decide) (by decide) dX12_feelsPlant_38 ?_
  rw [show (4 : Int).toNat = 4 from rfl]
  refine x_gV ?_
  intro V6 hV6
  have hI6 : AI K G V6 := hI4.up hV6 rfl (by omega) rfl (Or.inl (by decide))
  have hB6 := hB4.up hV6 (by rw [mkey_r (by decide)]; rfl)
  replace hF := hF.to (rdb_e (z := V6) hV6.symm)
  refine x_aload_n C.1 dX12_feelsPlant_39 0 rfl ?_
  refine x_getA C (N := 33) (i := 0) (by decide) rfl vc_X12 wx_X12 26 (by decide) wf_X12_62 (a := 18) rfl dX12_feelsPlant_40 ?_
  refine x_iconst C.1 (n := 5) dX12_feelsPlant_43 ?_
  refine x_aload_n C.1 dX12_feelsPlant_44 0 rfl ?_
  refine x_getA C (N := 33) (i := 0) (by decide) rfl vc_X12 wx_X12 0 (by decide) wf_X12_7 (a := 1) rfl dX12_feelsPlant_45 ?_
  refine x_bipush C.1 (n := 24) dX12_feelsPlant_48 ?_
  refine x_bipush C.1 (n := 7) dX12_feelsPlant_50 ?_
  refine x_iload_n C.1 dX12_feelsPlant_52 1 rfl ?_
  refine x_imul C.1 (v := 7 * x1) (by omega) dX12_feelsPlant_53 ?_
  refine x_iadd C.1 (v := 7 * x1 + 24) (by omega) dX12_feelsPlant_54 ?_
  refine x_bipush C.1 (n := 6) dX12_feelsPlant_55 ?_
  refine x_iadd C.1 (v := 7 * x1 + 30) (by omega) dX12_feelsPlant_57 ?_
  obtain ⟨z7, ez7, bz7⟩ := hI6.rd 1 ((7 * x1 + 30).toNat) (x := -2147483648) (y := 2147483647) (rgN_60 (Or.inl rfl) (by omega))
  replace hF := hF.to (rdb_e (z := z7) ez7)
  refine x_iald C (N := 33) (i := 1) (q := 7 * x1 + 30) (by decide) rfl (by omega) (by decide) dX12_feelsPlant_58 (a := z7) ez7 ?_
  refine x_iast C (N := 33) (i := 18) (q := 5) (a := z7) (by decide) rfl (by decide) (by decide) dX12_feelsPlant_59 ?_
  rw [show (5 : Int).toNat = 5 from rfl]
  refine x_gV ?_
  intro V8 hV8
  have hI8 : AI K G V8 := hI6.up hV8 rfl (by omega) rfl (Or.inl (by decide))
  have hB8 := hB6.up hV8 (by rw [mkey_r (by decide)]; rfl)
  replace hF := hF.to (rdb_e (z := V8) hV8.symm)
  refine x_aload_n C.1 dX12_feelsPlant_60 0 rfl ?_
  refine x_getA C (N := 33) (i := 0) (by decide) rfl vc_X12 wx_X12 26 (by decide) wf_X12_62 (a := 18) rfl dX12_feelsPlant_61 ?_
  refine x_bipush C.1 (n := 6) dX12_feelsPlant_64 ?_
  refine x_aload_n C.1 dX12_feelsPlant_66 0 rfl ?_
  refine x_getA C (N := 33) (i := 0) (by decide) rfl vc_X12 wx_X12 0 (by decide) wf_X12_7 (a := 1) rfl dX12_feelsPlant_67 ?_
  refine x_bipush C.1 (n := 12) dX12_feelsPlant_70 ?_
  refine x_iload_n C.1 dX12_feelsPlant_72 1 rfl ?_
  refine x_iadd C.1 (v := x1 + 12) (by omega) dX12_feelsPlant_73 ?_
  obtain ⟨z9, ez9, bz9⟩ := hI8.rd 1 ((x1 + 12).toNat) (x := 0) (y := 9) (rgN_20 (Or.inl rfl) (by omega))
  replace hF := hF.to (rdb_e (z := z9) ez9)
  replace hF := hF.fc bz9
  refine x_iald C (N := 33) (i := 1) (q := x1 + 12) (by decide) rfl (by omega) (by decide) dX12_feelsPlant_74 (a := z9) ez9 ?_
  refine x_iast C (N := 33) (i := 18) (q := 6) (a := z9) (by decide) rfl (by decide) (by decide) dX12_feelsPlant_75 ?_
  rw [show (6 : Int).toNat = 6 from rfl]
  refine x_gV ?_
  intro V10 hV10
  have hI10 : AI K G V10 := hI8.up hV10 rfl (by omega) rfl (Or.inl (by decide))
  have hB10 := hB8.up hV10 (by rw [mkey_r (by decide)]; rfl)
  replace hF := hF.to (rdb_e (z := V10) hV10.symm)
  refine x_aload_n C.1 dX12_feelsPlant_76 0 rfl ?_
  refine x_getA C (N := 33) (i := 0) (by decide) rfl vc_X12 wx_X12 26 (by decide) wf_X12_62 (a := 18) rfl dX12_feelsPlant_77 ?_
  refine x_bipush C.1 (n := 7) dX12_feelsPlant_80 ?_
  refine x_aload_n C.1 dX12_feelsPlant_82 0 rfl ?_
  refine x_getA C (N := 33) (i := 0) (by decide) rfl vc_X12 wx_X12 0 (by decide) wf_X12_7 (a := 1) rfl dX12_feelsPlant_83 ?_
  refine x_bipush C.1 (n := 16) dX12_feelsPlant_86 ?_
  refine x_iload_n C.1 dX12_feelsPlant_88 1 rfl ?_
  refine x_iadd C.1 (v := x1 + 16) (by omega) dX12_feelsPlant_89 ?_
  obtain ⟨z11, ez11, bz11⟩ := hI10.rd 1 ((x1 + 16).toNat) (x := 0) (y := 9) (rgN_20 (Or.inl rfl) (by omega))
  replace hF := hF.to (rdb_e (z := z11) ez11)
  replace hF := hF.fc bz11
  refine x_iald C (N := 33) (i := 1) (q := x1 + 16) (by decide) rfl (by omega) (by decide) dX12_feelsPlant_90 (a := z11) ez11 ?_
  refine x_iast C (N := 33) (i := 18) (q := 7) (a := z11) (by decide) rfl (by decide) (by decide) dX12_feelsPlant_91 ?_
  rw [show (7 : Int).toNat = 7 from rfl]
  refine x_gV ?_
  intro V12 hV12
  have hI12 : AI K G V12 := hI10.up hV12 rfl (by omega) rfl (Or.inl (by decide))
  have hB12 := hB10.up hV12 (by rw [mkey_r (by decide)]; rfl)
  replace hF := hF.to (rdb_e (z := V12) hV12.symm)
  refine x_aload_n C.1 dX12_feelsPlant_92 0 rfl ?_
  refine x_getA C (N := 33) (i := 0) (by decide) rfl vc_X12 wx_X12 26 (by decide) wf_X12_62 (a := 18) rfl dX12_feelsPlant_93 ?_
  refine x_bipush C.1 (n := 11) dX12_feelsPlant_96 ?_
  refine x_aload_n C.1 dX12_feelsPlant_98 0 rfl ?_
  refine x_getA C (N := 33) (i := 0) (by decide) rfl vc_X12 wx_X12 0 (by decide) wf_X12_7 (a := 1) rfl dX12_feelsPlant_99 ?_
  refine x_bipush C.1 (n := 20) dX12_feelsPlant_102 ?_
  refine x_iload_n C.1 dX12_feelsPlant_104 1 rfl ?_
  refine x_iadd C.1 (v := x1 + 20) (by omega) dX12_feelsPlant_105 ?_
  obtain ⟨z13, ez13, bz13⟩ := hI12.rd 1 ((x1 + 20).toNat) (x := -2147483648) (y := 2147483647) (rgN_60 (Or.inl rfl) (by omega))
  replace hF := hF.to (rdb_e (z := z13) ez13)
  refine x_iald C (N := 33) (i := 1) (q := x1 + 20) (by decide) rfl (by omega) (by decide) dX12_feelsPlant_106 (a := z13) ez13 ?_
  refine x_if_ge C.1 (tgt := 115) dX12_feelsPlant_107 (by decide) (by omega) (fun hc14 => ?_) (fun hc14 => ?_)
  · replace hF := hF.to (if_pos hc14)
    refine x_aload_n C.1 dX12_feelsPlant_115 0 rfl ?_
    refine x_getA C (N := 33) (i := 0) (by decide) rfl vc_X12 wx_X12 0 (by decide) wf_X12_7 (a := 1) rfl dX12_feelsPlant_116 ?_
    refine x_bipush C.1 (n := 79) dX12_feelsPlant_119 ?_
    obtain ⟨z15, ez15, bz15⟩ := hI12.rd 1 79 (x := -2147483648) (y := 2147483647) (rgN_81 (Or.inl rfl) (by decide))
    replace hF := hF.to (rdb_e (z := z15) ez15)
    refine x_iald C (N := 33) (i := 1) (q := 79) (by decide) rfl (by decide) (by decide) dX12_feelsPlant_121 (a := z15) ez15 ?_
    refine x_aload_n C.1 dX12_feelsPlant_122 0 rfl ?_
    refine x_getA C (N := 33) (i := 0) (by decide) rfl vc_X12 wx_X12 0 (by decide) wf_X12_7 (a := 1) rfl dX12_feelsPlant_123 ?_
    refine x_bipush C.1 (n := 20) dX12_feelsPlant_126 ?_
    refine x_iload_n C.1 dX12_feelsPlant_128 1 rfl ?_
    refine x_iadd C.1 (v := x1 + 20) (by omega) dX12_feelsPlant_129 ?_
    refine x_iald C (N := 33) (i := 1) (q := x1 + 20) (by decide) rfl (by omega) (by decide) dX12_feelsPlant_130 (a := z13) ez13 ?_
    refine x_isub C.1 (v := z15 - z13) (by omega) dX12_feelsPlant_131 ?_
    refine x_wrapg ?_
    intro z16 bz16 ew16
    replace hF := hF.to (rdb_e (z := z16) ew16.symm)
    refine x_iast C (N := 33) (i := 18) (q := 11) (a := z16) (by decide) rfl (by decide) (by decide) dX12_feelsPlant_132 ?_
    rw [show (11 : Int).toNat = 11 from rfl]
    refine x_gV ?_
    intro V17 hV17
    have hI17 : AI K G V17 := hI12.up hV17 rfl (by omega) rfl (Or.inl (by decide))
    have hB17 := hB12.up hV17 (by rw [mkey_r (by decide)]; rfl)
    replace hF := hF.to (rdb_e (z := V17) hV17.symm)
    exact x_vret (S := (Nat → Nat → Int)) (post := (fun u : Nat → Nat → Int => AI K G u ∧ FBm 4835703278458516698824704 V u ∧ (f_m_feelsPlant x1 V J Rr) u)) (w1 := (fun u : Nat → Nat → Int => MW cy ad u J Rr)) C hr rfl dX12_feelsPlant_133 V17 rfl ⟨hI17, hB17, hF _ rfl⟩
  · replace hF := hF.to (if_neg hc14)
    refine x_bipush C.1 (n := 99) dX12_feelsPlant_110 ?_
    refine x_goto C.1 (tgt := 132) dX12_feelsPlant_112 (by decide) ?_
    refine x_iast C (N := 33) (i := 18) (q := 11) (a := 99) (by decide) rfl (by decide) (by decide) dX12_feelsPlant_132 ?_
    rw [show (11 : Int).toNat = 11 from rfl]
    refine x_gV ?_
    intro V18 hV18
    have hI18 : AI K G V18 := hI12.up hV18 rfl (by decide) rfl (Or.inl (by decide))
    have hB18 := hB12.up hV18 (by rw [mkey_r (by decide)]; rfl)
    replace hF := hF.to (rdb_e (z := V18) hV18.symm)
    exact x_vret (S := (Nat → Nat → Int)) (post := (fun u : Nat → Nat → Int => AI K G u ∧ FBm 4835703278458516698824704 V u ∧ (f_m_feelsPlant x1 V J Rr) u)) (w1 := (fun u : Nat → Nat → Int => MW cy ad u J Rr)) C hr rfl dX12_feelsPlant_133 V18 rfl ⟨hI18, hB18, hF _ rfl⟩
theorem dX12_draws_0 : decode cX12_draws 0 = .ok (.aload_n 0, 1) := by decide +kernel
theorem dX12_draws_1 : decode cX12_draws 1 = .ok (.getfield 7, 3) := by decide +kernel
theorem dX12_draws_4 : decode cX12_draws 4 = .ok (.bipush 80, 2) := by decide +kernel
theorem dX12_draws_6 : decode cX12_draws 6 = .ok (.sipush 25173, 3) := by decide +kernel
theorem dX12_draws_9 : decode cX12_draws 9 = .ok (.aload_n 0, 1) := by decide +kernel
theorem dX12_draws_10 : decode cX12_draws 10 = .ok (.getfield 7, 3) := by decide +kernel
theorem dX12_draws_13 : decode cX12_draws 13 = .ok (.bipush 80, 2) := by decide +kernel
theorem dX12_draws_15 : decode cX12_draws 15 = .ok (.iaload, 1) := by decide +kernel
theorem dX12_draws_16 : decode cX12_draws 16 = .ok (.imul, 1) := by decide +kernel
theorem dX12_draws_17 : decode cX12_draws 17 = .ok (.sipush 13849, 3) := by decide +kernel
theorem dX12_draws_20 : decode cX12_draws 20 = .ok (.iadd, 1) := by decide +kernel
theorem dX12_draws_21 : decode cX12_draws 21 = .ok (.ldc_w 265, 3) := by decide +kernel
theorem dX12_draws_24 : decode cX12_draws 24 = .ok (.irem, 1) := by decide +kernel
theorem dX12_draws_25 : decode cX12_draws 25 = .ok (.iastore, 1) := by decide +kernel
theorem dX12_draws_26 : decode cX12_draws 26 = .ok (.aload_n 0, 1) := by decide +kernel
theorem dX12_draws_27 : decode cX12_draws 27 = .ok (.getfield 7, 3) := by decide +kernel
theorem dX12_draws_30 : decode cX12_draws 30 = .ok (.bipush 80, 2) := by decide +kernel
theorem dX12_draws_32 : decode cX12_draws 32 = .ok (.iaload, 1) := by decide +kernel
theorem dX12_draws_33 : decode cX12_draws 33 = .ok (.bipush 10, 2) := by decide +kernel
theorem dX12_draws_35 : decode cX12_draws 35 = .ok (.irem, 1) := by decide +kernel
theorem dX12_draws_36 : decode cX12_draws 36 = .ok (.ireturn, 1) := by decide +kernel
set_option maxRecDepth 100000 in
def f_m_draws (V : Nat → Nat → Int) (J : Nat → Nat → Int) (Rr : Nat → Nat → Nat) : (Int × (Nat → Nat → Int)) → Prop :=
  rdb (V 1 80) fun z1 => rdb (wr (25173 * z1)) fun z2 => rdb (wr (z2 + 13849)) fun z3 => rdb (iRem z3 65536) fun z4 => fct (-65535 ≤ z4 ∧ z4 ≤ 65535) <| rdb (up2 V 1 80 z4) fun V5 => rdb (iRem z4 10) fun z6 => fct (-9 ≤ z6 ∧ z6 ≤ 9) <| rtn (z6, V5)
set_option maxHeartbeats 8000000 in
set_option maxRecDepth 100000 in
theorem m_draws (l : Launch) (D : va_G) (cy : Nat → ClassId) (ad : Nat → Nat) (G : Nat → Nat → Int) (V J : Nat → Nat → Int) (Rr : Nat → Nat → Nat) (hI : MI G V) (hJ : VJ J) (hR : MR Rr)  : xMi l D (xTY cy) yX12_draws cX12_draws 1 (some .int) 0 0 0 0 [.ref (ad 0)] (MW cy ad V J Rr) (fun u : Nat → Nat → Int => MW cy ad u J Rr) (fun a (u : Nat → Nat → Int) => MI G u ∧ (∀ k : Nat, k < 80 → u 1 k = V 1 k) ∧ FBm 36893488147419103232 V u ∧ (f_m_draws V J Rr) (a, u)) := by
  refine xMi.mk (lv0 := [(0, .ref (ad 0))]) (by decide) rfl (Nat.le_of_ble_eq_true rfl) (fun p e s m below meth c A C hr hnm hAe => ?_)
  have C : xC2 p s m _ meth c D A s.heap 1 cX12_draws RX12 (xTY cy) := C
  have hB : FBm 36893488147419103232 V V := FBm.rf _ _
  have hF := Imp.of_eq (f_m_draws.eq_def V J Rr)
  refine x_aload_n C.1 dX12_draws_0 0 rfl ?_
  refine x_getA C (N := 33) (i := 0) (by decide) rfl vc_X12 wx_X12 0 (by decide) wf_X12_7 (a := 1) rfl dX12_draws_1 ?_
  refine x_bipush C.1 (n := 80) dX12_draws_4 ?_
  refine x_sipush C.1 (n := 25173) dX12_draws_6 ?_
  refine x_aload_n C.1 dX12_draws_9 0 rfl ?_
  refine x_getA C (N := 33) (i := 0) (by decide) rfl vc_X12 wx_X12 0 (by decide) wf_X12_7 (a := 1) rfl dX12_draws_10 ?_
  refine x_bipush C.1 (n := 80) dX12_draws_13 ?_
  obtain ⟨z1, ez1, bz1⟩ := hI.rd 1 80 (x := -2147483648) (y := 2147483647) (rgN_81 (Or.inl rfl) (by decide))
  replace hF := hF.to (rdb_e (z := z1) ez1)
  refine x_iald C (N := 33) (i := 1) (q := 80) (by decide) rfl (by decide) (by decide) dX12_draws_15 (a := z1) ez1 ?_
  refine x_imul C.1 (v := 25173 * z1) (by omega) dX12_draws_16 ?_
  refine x_wrapg ?_
  intro z2 bz2 ew2
  replace hF := hF.to (rdb_e (z := z2) ew2.symm)
  refine x_sipush C.1 (n := 13849) dX12_draws_17 ?_
  refine x_iadd C.1 (v := z2 + 13849) (by omega) dX12_draws_20 ?_
  refine x_wrapg ?_
  intro z3 bz3 ew3
  replace hF := hF.to (rdb_e (z := z3) ew3.symm)
  refine x_ldcw C.1 (n := 65536) wq_X12_265 dX12_draws_21 ?_
  obtain ⟨z4, hz4, bz4⟩ : ∃ z : Int, iRem z3 65536 = z ∧ (-65535 ≤ z ∧ z ≤ 65535) := ⟨_, rfl, iRem_m (by omega) (by omega)⟩
  replace hF := hF.to (rdb_e (z := z4) hz4)
  replace hF := hF.fc bz4
  refine x_irem C.1 (v := z4) hz4 dX12_draws_24 (by decide) (by decide) ?_
  refine x_iast C (N := 33) (i := 1) (q := 80) (a := z4) (by decide) rfl (by decide) (by decide) dX12_draws_25 ?_
  rw [show (80 : Int).toNat = 80 from rfl]
  refine x_gV ?_
  intro V5 hV5
  have hI5 : MI G V5 := hI.up hV5 (rgN_81 (Or.inl rfl) (by decide)) (by omega) rfl (Or.inr (by decide))
  have hB5 := hB.up hV5 (by rw [mkey_r (by decide)]; rfl)
  replace hF := hF.to (rdb_e (z := V5) hV5.symm)
  refine x_aload_n C.1 dX12_draws_26 0 rfl ?_
  refine x_getA C (N := 33) (i := 0) (by decide) rfl vc_X12 wx_X12 0 (by decide) wf_X12_7 (a := 1) rfl dX12_draws_27 ?_
  refine x_bipush C.1 (n := 80) dX12_draws_30 ?_
  refine x_iald C (N := 33) (i := 1) (q := 80) (by decide) rfl (by decide) (by decide) dX12_draws_32 (a := z4) ((congrFun (congrFun hV5 1) 80).trans (up2_s _ _ _ _)) ?_
  refine x_bipush C.1 (n := 10) dX12_draws_33 ?_
  obtain ⟨z6, hz6, bz6⟩ : ∃ z : Int, iRem z4 10 = z ∧ (-9 ≤ z ∧ z ≤ 9) := ⟨_, rfl, iRem_m (by omega) (by omega)⟩
  replace hF := hF.to (rdb_e (z := z6) hz6)
  replace hF := hF.fc bz6
  refine x_irem C.1 (v := z6) hz6 dX12_draws_35 (by decide) (by decide) ?_
  exact x_iret (S := (Nat → Nat → Int)) (post := (fun a (u : Nat → Nat → Int) => MI G u ∧ (∀ k : Nat, k < 80 → u 1 k = V 1 k) ∧ FBm 36893488147419103232 V u ∧ (f_m_draws V J Rr) (a, u))) (w1 := (fun u : Nat → Nat → Int => MW cy ad u J Rr)) (a := z6) C hr rfl dX12_draws_36 (by omega) V5 rfl ⟨hI5, (fun k hk => by rw [hV5]; exact up2_n _ _ (Or.inr (by omega))), hB5, hF _ rfl⟩
theorem dX12_plantIs_0 : decode cX12_plantIs 0 = .ok (.aload_n 0, 1) := by decide +kernel
theorem dX12_plantIs_1 : decode cX12_plantIs 1 = .ok (.iload_n 1, 1) := by decide +kernel
theorem dX12_plantIs_2 : decode cX12_plantIs 2 = .ok (.invokevirtual 122, 3) := by decide +kernel
theorem dX12_plantIs_5 : decode cX12_plantIs 5 = .ok (.ifCond .ne 5, 3) := by decide +kernel
theorem dX12_plantIs_8 : decode cX12_plantIs 8 = .ok (.iconst (-1), 1) := by decide +kernel
theorem dX12_plantIs_9 : decode cX12_plantIs 9 = .ok (.ireturn, 1) := by decide +kernel
theorem dX12_plantIs_10 : decode cX12_plantIs 10 = .ok (.iload_n 2, 1) := by decide +kernel
theorem dX12_plantIs_11 : decode cX12_plantIs 11 = .ok (.tableswitch 113 0 6 #[41, 50, 59, 69, 79, 89, 103], 41) := by decide +kernel
theorem dX12_plantIs_52 : decode cX12_plantIs 52 = .ok (.aload_n 0, 1) := by decide +kernel
theorem dX12_plantIs_53 : decode cX12_plantIs 53 = .ok (.getfield 7, 3) := by decide +kernel
theorem dX12_plantIs_56 : decode cX12_plantIs 56 = .ok (.iconst 0, 1) := by decide +kernel
theorem dX12_plantIs_57 : decode cX12_plantIs 57 = .ok (.iload_n 1, 1) := by decide +kernel
theorem dX12_plantIs_58 : decode cX12_plantIs 58 = .ok (.iadd, 1) := by decide +kernel
theorem dX12_plantIs_59 : decode cX12_plantIs 59 = .ok (.iaload, 1) := by decide +kernel
theorem dX12_plantIs_60 : decode cX12_plantIs 60 = .ok (.ireturn, 1) := by decide +kernel
theorem dX12_plantIs_61 : decode cX12_plantIs 61 = .ok (.aload_n 0, 1) := by decide +kernel
theorem dX12_plantIs_62 : decode cX12_plantIs 62 = .ok (.getfield 7, 3) := by decide +kernel
theorem dX12_plantIs_65 : decode cX12_plantIs 65 = .ok (.iconst 4, 1) := by decide +kernel
theorem dX12_plantIs_66 : decode cX12_plantIs 66 = .ok (.iload_n 1, 1) := by decide +kernel
theorem dX12_plantIs_67 : decode cX12_plantIs 67 = .ok (.iadd, 1) := by decide +kernel
theorem dX12_plantIs_68 : decode cX12_plantIs 68 = .ok (.iaload, 1) := by decide +kernel
theorem dX12_plantIs_69 : decode cX12_plantIs 69 = .ok (.ireturn, 1) := by decide +kernel
theorem dX12_plantIs_70 : decode cX12_plantIs 70 = .ok (.aload_n 0, 1) := by decide +kernel
theorem dX12_plantIs_71 : decode cX12_plantIs 71 = .ok (.getfield 7, 3) := by decide +kernel
theorem dX12_plantIs_74 : decode cX12_plantIs 74 = .ok (.bipush 8, 2) := by decide +kernel
theorem dX12_plantIs_76 : decode cX12_plantIs 76 = .ok (.iload_n 1, 1) := by decide +kernel
theorem dX12_plantIs_77 : decode cX12_plantIs 77 = .ok (.iadd, 1) := by decide +kernel
theorem dX12_plantIs_78 : decode cX12_plantIs 78 = .ok (.iaload, 1) := by decide +kernel
theorem dX12_plantIs_79 : decode cX12_plantIs 79 = .ok (.ireturn, 1) := by decide +kernel
theorem dX12_plantIs_80 : decode cX12_plantIs 80 = .ok (.aload_n 0, 1) := by decide +kernel
theorem dX12_plantIs_81 : decode cX12_plantIs 81 = .ok (.getfield 7, 3) := by decide +kernel
theorem dX12_plantIs_84 : decode cX12_plantIs 84 = .ok (.bipush 12, 2) := by decide +kernel
theorem dX12_plantIs_86 : decode cX12_plantIs 86 = .ok (.iload_n 1, 1) := by decide +kernel
theorem dX12_plantIs_87 : decode cX12_plantIs 87 = .ok (.iadd, 1) := by decide +kernel
theorem dX12_plantIs_88 : decode cX12_plantIs 88 = .ok (.iaload, 1) := by decide +kernel
theorem dX12_plantIs_89 : decode cX12_plantIs 89 = .ok (.ireturn, 1) := by decide +kernel
theorem dX12_plantIs_90 : decode cX12_plantIs 90 = .ok (.aload_n 0, 1) := by decide +kernel
theorem dX12_plantIs_91 : decode cX12_plantIs 91 = .ok (.getfield 7, 3) := by decide +kernel
theorem dX12_plantIs_94 : decode cX12_plantIs 94 = .ok (.bipush 16, 2) := by decide +kernel
theorem dX12_plantIs_96 : decode cX12_plantIs 96 = .ok (.iload_n 1, 1) := by decide +kernel
theorem dX12_plantIs_97 : decode cX12_plantIs 97 = .ok (.iadd, 1) := by decide +kernel
theorem dX12_plantIs_98 : decode cX12_plantIs 98 = .ok (.iaload, 1) := by decide +kernel
theorem dX12_plantIs_99 : decode cX12_plantIs 99 = .ok (.ireturn, 1) := by decide +kernel
theorem dX12_plantIs_100 : decode cX12_plantIs 100 = .ok (.aload_n 0, 1) := by decide +kernel
theorem dX12_plantIs_101 : decode cX12_plantIs 101 = .ok (.iload_n 1, 1) := by decide +kernel
theorem dX12_plantIs_102 : decode cX12_plantIs 102 = .ok (.invokevirtual 130, 3) := by decide +kernel
theorem dX12_plantIs_105 : decode cX12_plantIs 105 = .ok (.ifCond .eq 7, 3) := by decide +kernel
theorem dX12_plantIs_108 : decode cX12_plantIs 108 = .ok (.iconst 0, 1) := by decide +kernel
theorem dX12_plantIs_109 : decode cX12_plantIs 109 = .ok (.goto 4, 3) := by decide +kernel
theorem dX12_plantIs_112 : decode cX12_plantIs 112 = .ok (.iconst 1, 1) := by decide +kernel
theorem dX12_plantIs_113 : decode cX12_plantIs 113 = .ok (.ireturn, 1) := by decide +kernel
theorem dX12_plantIs_114 : decode cX12_plantIs 114 = .ok (.aload_n 0, 1) := by decide +kernel
theorem dX12_plantIs_115 : decode cX12_plantIs 115 = .ok (.getfield 7, 3) := by decide +kernel
theorem dX12_plantIs_118 : decode cX12_plantIs 118 = .ok (.bipush 20, 2) := by decide +kernel
theorem dX12_plantIs_120 : decode cX12_plantIs 120 = .ok (.iload_n 1, 1) := by decide +kernel
theorem dX12_plantIs_121 : decode cX12_plantIs 121 = .ok (.iadd, 1) := by decide +kernel
theorem dX12_plantIs_122 : decode cX12_plantIs 122 = .ok (.iaload, 1) := by decide +kernel
theorem dX12_plantIs_123 : decode cX12_plantIs 123 = .ok (.ireturn, 1) := by decide +kernel
theorem dX12_plantIs_124 : decode cX12_plantIs 124 = .ok (.iload_n 2, 1) := by decide +kernel
theorem dX12_plantIs_125 : decode cX12_plantIs 125 = .ok (.bipush 10, 2) := by decide +kernel
theorem dX12_plantIs_127 : decode cX12_plantIs 127 = .ok (.bipush 16, 2) := by decide +kernel
theorem dX12_plantIs_129 : decode cX12_plantIs 129 = .ok (.invokestatic 126, 3) := by decide +kernel
theorem dX12_plantIs_132 : decode cX12_plantIs 132 = .ok (.ifCond .eq 23, 3) := by decide +kernel
theorem dX12_plantIs_135 : decode cX12_plantIs 135 = .ok (.aload_n 0, 1) := by decide +kernel
theorem dX12_plantIs_136 : decode cX12_plantIs 136 = .ok (.getfield 7, 3) := by decide +kernel
theorem dX12_plantIs_139 : decode cX12_plantIs 139 = .ok (.bipush 24, 2) := by decide +kernel
theorem dX12_plantIs_141 : decode cX12_plantIs 141 = .ok (.bipush 7, 2) := by decide +kernel
theorem dX12_plantIs_143 : decode cX12_plantIs 143 = .ok (.iload_n 1, 1) := by decide +kernel
theorem dX12_plantIs_144 : decode cX12_plantIs 144 = .ok (.imul, 1) := by decide +kernel
theorem dX12_plantIs_145 : decode cX12_plantIs 145 = .ok (.iadd, 1) := by decide +kernel
theorem dX12_plantIs_146 : decode cX12_plantIs 146 = .ok (.iload_n 2, 1) := by decide +kernel
theorem dX12_plantIs_147 : decode cX12_plantIs 147 = .ok (.iadd, 1) := by decide +kernel
theorem dX12_plantIs_148 : decode cX12_plantIs 148 = .ok (.bipush 10, 2) := by decide +kernel
theorem dX12_plantIs_150 : decode cX12_plantIs 150 = .ok (.isub, 1) := by decide +kernel
theorem dX12_plantIs_151 : decode cX12_plantIs 151 = .ok (.iaload, 1) := by decide +kernel
theorem dX12_plantIs_152 : decode cX12_plantIs 152 = .ok (.goto 4, 3) := by decide +kernel
theorem dX12_plantIs_155 : decode cX12_plantIs 155 = .ok (.iconst (-1), 1) := by decide +kernel
theorem dX12_plantIs_156 : decode cX12_plantIs 156 = .ok (.ireturn, 1) := by decide +kernel
set_option maxRecDepth 100000 in
def f_m_plantIs (x1 : Int) (x2 : Int) (V : Nat → Nat → Int) (J : Nat → Nat → Int) (Rr : Nat → Nat → Nat) : (Int) → Prop :=
  calR (f_m_isPlant x1 V J Rr) fun z1 => fct (0 ≤ z1 ∧ z1 ≤ 1) <| (if ¬ z1 = 0 then (if x2 = 0 then rdb (V 1 x1.toNat) fun z5 => fct (0 ≤ z5 ∧ z5 ≤ 24) <| rtn z5 else (if x2 = 1 then rdb (V 1 ((x1 + 4).toNat)) fun z7 => fct (0 ≤ z7 ∧ z7 ≤ 24) <| rtn z7 else (if x2 = 2 then rdb (V 1 ((x1 + 8).toNat)) fun z9 => fct (0 ≤ z9 ∧ z9 ≤ 9) <| rtn z9 else (if x2 = 3 then rdb (V 1 ((x1 + 12).toNat)) fun z11 => fct (0 ≤ z11 ∧ z11 ≤ 9) <| rtn z11 else (if x2 = 4 then rdb (V 1 ((x1 + 16).toNat)) fun z13 => fct (0 ≤ z13 ∧ z13 ≤ 9) <| rtn z13 else (if x2 = 5 then calR (f_m_lives x1 V J Rr) fun z15 => fct (0 ≤ z15 ∧ z15 ≤ 1) <| (if z15 = 0 then rtn 1 else rdb (V 1 ((x1 + 12).toNat)) fun z18 => fct (0 ≤ z18 ∧ z18 ≤ 8) <| rdb (V 1 ((x1 + 16).toNat)) fun z19 => fct (0 ≤ z19 ∧ z19 ≤ 8) <| rtn 0) else (if x2 = 6 then rdb (V 1 ((x1 + 20).toNat)) fun z21 => rtn z21 else calR (f_m_in x2 10 16) fun z22 => fct (0 ≤ z22 ∧ z22 ≤ 1) <| (if z22 = 0 then rtn ((-1)) else rdb (V 1 ((7 * x1 + x2 + 14).toNat)) fun z25 => rtn z25)))))))) else rtn ((-1)))
set_option maxHeartbeats 8000000 in
set_option maxRecDepth 100000 in
theorem m_plantIs (l : Launch) (D : va_G) (cy : Nat → ClassId) (ad : Nat → Nat) (G : Nat → Nat → Int) (V J : Nat → Nat → Int) (Rr : Nat → Nat → Nat) (hI : MI G V) (hJ : VJ J) (hR : MR Rr) (x1 : Int) (bx1 : -2147483648 ≤ x1 ∧ x1 ≤ 2147483647) (x2 : Int) (bx2 : -2147483648 ≤ x2 ∧ x2 ≤ 2147483647) : xMi l D (xTY cy) yX12_plantIs cX12_plantIs 3 (some .int) 3 63 0 0 [.ref (ad 0), vI x1, vI x2] (MW cy ad V J Rr) (fun _ : Unit => MW cy ad V J Rr) (fun a (u : Unit) => (f_m_plantIs x1 x2 V J Rr) a) := by
  refine xMi.mk (lv0 := [(0, .ref (ad 0)), (1, vI x1), (2, vI x2)]) (by decide) rfl (Nat.le_of_ble_eq_true rfl) (fun p e s m below meth c A C hr hnm hAe => ?_)
  have C : xC2 p s m _ meth c D A s.heap 3 cX12_plantIs RX12 (xTY cy) := C
  have hF := Imp.of_eq (f_m_plantIs.eq_def x1 x2 V J Rr)
  refine x_aload_n C.1 dX12_plantIs_0 0 rfl ?_
  refine x_iload_n C.1 dX12_plantIs_1 1 rfl ?_
  refine x_callVi C (As := [vI x1]) (rest := []) 0 (xw_at (N := 33) (i := 0) (by decide) rfl) vc_X12 (m_isPlant l D cy ad G V J Rr hI hJ hR x1 ⟨by omega, by omega⟩) (l1 := []) (l2 := []) (List.append_nil _).symm (w2 := fun _ => MW cy ad V J Rr) (fun _ => List.append_nil _) rfl wm_yX12_isPlant wn_X12 wl_X12_122 wi_yX12_isPlant we_yX12_isPlant hd_yX12_isPlant rfl ⟨Nat.le_of_ble_eq_true rfl, Nat.le_of_ble_eq_true rfl⟩ (Nat.le_of_ble_eq_true rfl) ⟨Nat.le_of_ble_eq_true rfl, Nat.le_of_ble_eq_true rfl⟩ dX12_plantIs_2 (fun z1 u1 bz1 h1 => ?_)
  obtain ⟨hon1, hFc1⟩ := h1
  replace hF := calR_i hF hFc1
  replace hF := hF.fc hon1.r
  have bq1 := Sp.r hon1
  refine x_if_ne C.1 (tgt := 10) dX12_plantIs_5 (by decide) (by omega) (fun hc2 => ?_) (fun hc2 => ?_)
  · replace hF := hF.to (if_pos hc2)
    have hon3 := Sp.on hon1 (by omega)
    refine x_iload_n C.1 dX12_plantIs_10 2 rfl ?_
    by_cases hs4 : x2 = 0
    · replace hF := hF.to (if_pos hs4)
      refine x_tabIn C.1 0 hs4 (by decide) (tgt := 52) dX12_plantIs_11 (by decide) (by decide) rfl (by decide) ?_
      refine x_aload_n C.1 dX12_plantIs_52 0 rfl ?_
      refine x_getA C (N := 33) (i := 0) (by decide) rfl vc_X12 wx_X12 0 (by decide) wf_X12_7 (a := 1) rfl dX12_plantIs_53 ?_
      refine x_iconst C.1 (n := 0) dX12_plantIs_56 ?_
      refine x_iload_n C.1 dX12_plantIs_57 1 rfl ?_
      refine x_iadd C.1 (v := x1) (by omega) dX12_plantIs_58 ?_
      obtain ⟨z5, ez5, bz5⟩ := hI.rd 1 x1.toNat (x := 0) (y := 24) (rgN_8 (Or.inl rfl) (by omega))
      replace hF := hF.to (rdb_e (z := z5) ez5)
      replace hF := hF.fc bz5
      refine x_iald C (N := 33) (i := 1) (q := x1) (by decide) rfl (by omega) (by decide) dX12_plantIs_59 (a := z5) ez5 ?_
      exact x_iret (S := Unit) (post := (fun a (u : Unit) => (f_m_plantIs x1 x2 V J Rr) a)) (w1 := (fun _ : Unit => MW cy ad V J Rr)) (a := z5) C hr rfl dX12_plantIs_60 (by omega) () rfl (hF _ rfl)
    replace hF := hF.to (if_neg hs4)
    by_cases hs6 : x2 = 1
    · replace hF := hF.to (if_pos hs6)
      refine x_tabIn C.1 1 hs6 (by decide) (tgt := 61) dX12_plantIs_11 (by decide) (by decide) rfl (by decide) ?_
      refine x_aload_n C.1 dX12_plantIs_61 0 rfl ?_
      refine x_getA C (N := 33) (i := 0) (by decide) rfl vc_X12 wx_X12 0 (by decide) wf_X12_7 (a := 1) rfl dX12_plantIs_62 ?_
      refine x_iconst C.1 (n := 4) dX12_plantIs_65 ?_
      refine x_iload_n C.1 dX12_plantIs_66 1 rfl ?_
      refine x_iadd C.1 (v := x1 + 4) (by omega) dX12_plantIs_67 ?_
      obtain ⟨z7, ez7, bz7⟩ := hI.rd 1 ((x1 + 4).toNat) (x := 0) (y := 24) (rgN_8 (Or.inl rfl) (by omega))
      replace hF := hF.to (rdb_e (z := z7) ez7)
      replace hF := hF.fc bz7
      refine x_iald C (N := 33) (i := 1) (q := x1 + 4) (by decide) rfl (by omega) (by decide) dX12_plantIs_68 (a := z7) ez7 ?_
      exact x_iret (S := Unit) (post := (fun a (u : Unit) => (f_m_plantIs x1 x2 V J Rr) a)) (w1 := (fun _ : Unit => MW cy ad V J Rr)) (a := z7) C hr rfl dX12_plantIs_69 (by omega) () rfl (hF _ rfl)
    replace hF := hF.to (if_neg hs6)
    by_cases hs8 : x2 = 2
    · replace hF := hF.to (if_pos hs8)
      refine x_tabIn C.1 2 hs8 (by decide) (tgt := 70) dX12_plantIs_11 (by decide) (by decide) rfl (by decide) ?_
      refine x_aload_n C.1 dX12_plantIs_70 0 rfl ?_
      refine x_getA C (N := 33) (i := 0) (by decide) rfl vc_X12 wx_X12 0 (by decide) wf_X12_7 (a := 1) rfl dX12_plantIs_71 ?_
      refine x_bipush C.1 (n := 8) dX12_plantIs_74 ?_
      refine x_iload_n C.1 dX12_plantIs_76 1 rfl ?_
      refine x_iadd C.1 (v := x1 + 8) (by omega) dX12_plantIs_77 ?_
      obtain ⟨z9, ez9, bz9⟩ := hI.rd 1 ((x1 + 8).toNat) (x := 0) (y := 9) (rgN_20 (Or.inl rfl) (by omega))
      replace hF := hF.to (rdb_e (z := z9) ez9)
      replace hF := hF.fc bz9
      refine x_iald C (N := 33) (i := 1) (q := x1 + 8) (by decide) rfl (by omega) (by decide) dX12_plantIs_78 (a := z9) ez9 ?_
      exact x_iret (S := Unit) (post := (fun a (u : Unit) => (f_m_plantIs x1 x2 V J Rr) a)) (w1 := (fun _ : Unit => MW cy ad V J Rr)) (a := z9) C hr rfl dX12_plantIs_79 (by omega) () rfl (hF _ rfl)
    replace hF := hF.to (if_neg hs8)
    by_cases hs10 : x2 = 3
    · replace hF := hF.to (if_pos hs10)
      refine x_tabIn C.1 3 hs10 (by decide) (tgt := 80) dX12_plantIs_11 (by decide) (by decide) rfl (by decide) ?_
      refine x_aload_n C.1 dX12_plantIs_80 0 rfl ?_
      refine x_getA C (N := 33) (i := 0) (by decide) rfl vc_X12 wx_X12 0 (by decide) wf_X12_7 (a := 1) rfl dX12_plantIs_81 ?_
      refine x_bipush C.1 (n := 12) dX12_plantIs_84 ?_
      refine x_iload_n C.1 dX12_plantIs_86 1 rfl ?_
      refine x_iadd C.1 (v := x1 + 12) (by omega) dX12_plantIs_87 ?_
      obtain ⟨z11, ez11, bz11⟩ := hI.rd 1 ((x1 + 12).toNat) (x := 0) (y := 9) (rgN_20 (Or.inl rfl) (by omega))
      replace hF := hF.to (rdb_e (z := z11) ez11)
      replace hF := hF.fc bz11
      refine x_iald C (N := 33) (i := 1) (q := x1 + 12) (by decide) rfl (by omega) (by decide) dX12_plantIs_88 (a := z11) ez11 ?_
      exact x_iret (S := Unit) (post := (fun a (u : Unit) => (f_m_plantIs x1 x2 V J Rr) a)) (w1 := (fun _ : Unit => MW cy ad V J Rr)) (a := z11) C hr rfl dX12_plantIs_89 (by omega) () rfl (hF _ rfl)
    replace hF := hF.to (if_neg hs10)
    by_cases hs12 : x2 = 4
    · replace hF := hF.to (if_pos hs12)
      refine x_tabIn C.1 4 hs12 (by decide) (tgt := 90) dX12_plantIs_11 (by decide) (by decide) rfl (by decide) ?_
      refine x_aload_n C.1 dX12_plantIs_90 0 rfl ?_
      refine x_getA C (N := 33) (i := 0) (by decide) rfl vc_X12 wx_X12 0 (by decide) wf_X12_7 (a := 1) rfl dX12_plantIs_91 ?_
      refine x_bipush C.1 (n := 16) dX12_plantIs_94 ?_
      refine x_iload_n C.1 dX12_plantIs_96 1 rfl ?_
      refine x_iadd C.1 (v := x1 + 16) (by omega) dX12_plantIs_97 ?_
      obtain ⟨z13, ez13, bz13⟩ := hI.rd 1 ((x1 + 16).toNat) (x := 0) (y := 9) (rgN_20 (Or.inl rfl) (by omega))
      replace hF := hF.to (rdb_e (z := z13) ez13)
      replace hF := hF.fc bz13
      refine x_iald C (N := 33) (i := 1) (q := x1 + 16) (by decide) rfl (by omega) (by decide) dX12_plantIs_98 (a := z13) ez13 ?_
      exact x_iret (S := Unit) (post := (fun a (u : Unit) => (f_m_plantIs x1 x2 V J Rr) a)) (w1 := (fun _ : Unit => MW cy ad V J Rr)) (a := z13) C hr rfl dX12_plantIs_99 (by omega) () rfl (hF _ rfl)
    replace hF := hF.to (if_neg hs12)
    by_cases hs14 : x2 = 5
    · replace hF := hF.to (if_pos hs14)
      refine x_tabIn C.1 5 hs14 (by decide) (tgt := 100) dX12_plantIs_11 (by decide) (by decide) rfl (by decide) ?_
      refine x_aload_n C.1 dX12_plantIs_100 0 rfl ?_
      refine x_iload_n C.1 dX12_plantIs_101 1 rfl ?_
      refine x_callVi C (As := [vI x1]) (rest := []) 0 (xw_at (N := 33) (i := 0) (by decide) rfl) vc_X12 (m_lives l D cy ad G V J Rr hI hJ hR x1 ⟨by omega, by omega⟩) (l1 := []) (l2 := []) (List.append_nil _).symm (w2 := fun _ => MW cy ad V J Rr) (fun _ => List.append_nil _) rfl wm_yX12_lives wn_X12 wl_X12_130 wi_yX12_lives we_yX12_lives hd_yX12_lives rfl ⟨Nat.le_of_ble_eq_true rfl, Nat.le_of_ble_eq_true rfl⟩ (Nat.le_of_ble_eq_true rfl) ⟨Nat.le_of_ble_eq_true rfl, Nat.le_of_ble_eq_true rfl⟩ dX12_plantIs_102 (fun z15 u15 bz15 h15 => ?_)
      obtain ⟨bq15, hx15_0, hFc15⟩ := h15
      replace hF := calR_i hF hFc15
      replace hF := hF.fc bq15
      refine x_if_eq C.1 (tgt := 112) dX12_plantIs_105 (by decide) (by omega) (fun hc16 => ?_) (fun hc16 => ?_)
      · replace hF := hF.to (if_pos hc16)
        refine x_iconst C.1 (n := 1) dX12_plantIs_112 ?_
        exact x_iret (S := Unit) (post := (fun a (u : Unit) => (f_m_plantIs x1 x2 V J Rr) a)) (w1 := (fun _ : Unit => MW cy ad V J Rr)) (a := 1) C hr rfl dX12_plantIs_113 (by decide) () rfl (hF _ rfl)
      · replace hF := hF.to (if_neg hc16)
        have hon17 := Sp.on hx15_0 (by omega)
        obtain ⟨z18, ez18, bz18⟩ := hI.rd 1 ((x1 + 12).toNat) (x := 0) (y := 9) (rgN_20 (Or.inl rfl) (by omega))
        have by18 : z18 ≤ 8 := by rw [← ez18, show (x1 + 12).toNat = 12 + x1.toNat by omega]; exact hon17.2.1
        replace hF := hF.to (rdb_e (z := z18) ez18)
        replace hF := hF.fc ⟨bz18.1, by18⟩
        obtain ⟨z19, ez19, bz19⟩ := hI.rd 1 ((x1 + 16).toNat) (x := 0) (y := 9) (rgN_20 (Or.inl rfl) (by omega))
        have by19 : z19 ≤ 8 := by rw [← ez19, show (x1 + 16).toNat = 16 + x1.toNat by omega]; exact hon17.2.2
        replace hF := hF.to (rdb_e (z := z19) ez19)
        replace hF := hF.fc ⟨bz19.1, by19⟩
        refine x_iconst C.1 (n := 0) dX12_plantIs_108 ?_
        refine x_goto C.1 (tgt := 113) dX12_plantIs_109 (by decide) ?_
        exact x_iret (S := Unit) (post := (fun a (u : Unit) => (f_m_plantIs x1 x2 V J Rr) a)) (w1 := (fun _ : Unit => MW cy ad V J Rr)) (a := 0) C hr rfl dX12_plantIs_113 (by decide) () rfl (hF _ rfl)
    replace hF := hF.to (if_neg hs14)
    by_cases hs20 : x2 = 6
    · replace hF := hF.to (if_pos hs20)
      refine x_tabIn C.1 6 hs20 (by decide) (tgt := 114) dX12_plantIs_11 (by decide) (by decide) rfl (by decide) ?_
      refine x_aload_n C.1 dX12_plantIs_114 0 rfl ?_
      refine x_getA C (N := 33) (i := 0) (by decide) rfl vc_X12 wx_X12 0 (by decide) wf_X12_7 (a := 1) rfl dX12_plantIs_115 ?_
      refine x_bipush C.1 (n := 20) dX12_plantIs_118 ?_
      refine x_iload_n C.1 dX12_plantIs_120 1 rfl ?_
      refine x_iadd C.1 (v := x1 + 20) (by omega) dX12_plantIs_121 ?_
      obtain ⟨z21, ez21, bz21⟩ := hI.rd 1 ((x1 + 20).toNat) (x := -2147483648) (y := 2147483647) (rgN_60 (Or.inl rfl) (by omega))
      replace hF := hF.to (rdb_e (z := z21) ez21)
      refine x_iald C (N := 33) (i := 1) (q := x1 + 20) (by decide) rfl (by omega) (by decide) dX12_plantIs_122 (a := z21) ez21 ?_
      exact x_iret (S := Unit) (post := (fun a (u : Unit) => (f_m_plantIs x1 x2 V J Rr) a)) (w1 := (fun _ : Unit => MW cy ad V J Rr)) (a := z21) C hr rfl dX12_plantIs_123 (by omega) () rfl (hF _ rfl)
    replace hF := hF.to (if_neg hs20)
    refine x_tabOut C.1 (tgt := 124) (by omega) dX12_plantIs_11 (by omega) (by decide) ?_
    refine x_iload_n C.1 dX12_plantIs_124 2 rfl ?_
    refine x_bipush C.1 (n := 10) dX12_plantIs_125 ?_
    refine x_bipush C.1 (n := 16) dX12_plantIs_127 ?_
    refine x_callSi C (As := [vI x2, vI 10, vI 16]) (rest := []) (m_in l D cy x2 ⟨by omega, by omega⟩ 10 ⟨by decide, by decide⟩ 16 ⟨by decide, by decide⟩) (l1 := []) (l2 := _) rfl (w2 := fun _ => _) (fun _ => rfl) rfl wm_yX12_in wn_X12 wl_X12_126 wi_yX12_in hd_yX12_in rfl ⟨Nat.le_of_ble_eq_true rfl, Nat.le_of_ble_eq_true rfl⟩ (Nat.le_of_ble_eq_true rfl) ⟨Nat.le_of_ble_eq_true rfl, Nat.le_of_ble_eq_true rfl⟩ dX12_plantIs_129 (fun z22 u22 bz22 h22 => ?_)
    obtain ⟨bq22, hx22_0, hFc22⟩ := h22
    replace hF := calR_i hF hFc22
    replace hF := hF.fc bq22
    refine x_if_eq C.1 (tgt := 155) dX12_plantIs_132 (by decide) (by omega) (fun hc23 => ?_) (fun hc23 => ?_)
    · replace hF := hF.to (if_pos hc23)
      refine x_iconst C.1 (n := -1) dX12_plantIs_155 ?_
      exact x_iret (S := Unit) (post := (fun a (u : Unit) => (f_m_plantIs x1 x2 V J Rr) a)) (w1 := (fun _ : Unit => MW cy ad V J Rr)) (a := (-1)) C hr rfl dX12_plantIs_156 (by decide) () rfl (hF _ rfl)
    · replace hF := hF.to (if_neg hc23)
      have hon24 := Sq.on hx22_0 (by omega)
      refine x_aload_n C.1 dX12_plantIs_135 0 rfl ?_
      refine x_getA C (N := 33) (i := 0) (by decide) rfl vc_X12 wx_X12 0 (by decide) wf_X12_7 (a := 1) rfl dX12_plantIs_136 ?_
      refine x_bipush C.1 (n := 24) dX12_plantIs_139 ?_
      refine x_bipush C.1 (n := 7) dX12_plantIs_141 ?_
      refine x_iload_n C.1 dX12_plantIs_143 1 rfl ?_
      refine x_imul C.1 (v := 7 * x1) (by omega) dX12_plantIs_144 ?_
      refine x_iadd C.1 (v := 7 * x1 + 24) (by omega) dX12_plantIs_145 ?_
      refine x_iload_n C.1 dX12_plantIs_146 2 rfl ?_
      refine x_iadd C.1 (v := 7 * x1 + x2 + 24) (by omega) dX12_plantIs_147 ?_
      refine x_bipush C.1 (n := 10) dX12_plantIs_148 ?_
      refine x_isub C.1 (v := 7 * x1 + x2 + 14) (by omega) dX12_plantIs_150 ?_
      obtain ⟨z25, ez25, bz25⟩ := hI.rd 1 ((7 * x1 + x2 + 14).toNat) (x := -2147483648) (y := 2147483647) (rgN_60 (Or.inl rfl) (by omega))
      replace hF := hF.to (rdb_e (z := z25) ez25)
      refine x_iald C (N := 33) (i := 1) (q := 7 * x1 + x2 + 14) (by decide) rfl (by omega) (by decide) dX12_plantIs_151 (a := z25) ez25 ?_
      refine x_goto C.1 (tgt := 156) dX12_plantIs_152 (by decide) ?_
      exact x_iret (S := Unit) (post := (fun a (u : Unit) => (f_m_plantIs x1 x2 V J Rr) a)) (w1 := (fun _ : Unit => MW cy ad V J Rr)) (a := z25) C hr rfl dX12_plantIs_156 (by omega) () rfl (hF _ rfl)
  · replace hF := hF.to (if_neg (fun hh => hh hc2))
    refine x_iconst C.1 (n := -1) dX12_plantIs_8 ?_
    exact x_iret (S := Unit) (post := (fun a (u : Unit) => (f_m_plantIs x1 x2 V J Rr) a)) (w1 := (fun _ : Unit => MW cy ad V J Rr)) (a := (-1)) C hr rfl dX12_plantIs_9 (by decide) () rfl (hF _ rfl)
theorem hd_yX12_isPerson : yX12_isPerson.cls ≠ "java/lang/invoke/MethodHandle" ∧ yX12_isPerson.cls ≠ "java/lang/invoke/VarHandle" ∧ (parseMethodDescriptor yX12_isPerson.desc).map (fun d => d.parameters.length) = some 1 := by decide +kernel
theorem dX12_laysSome_0 : decode cX12_laysSome 0 = .ok (.iconst 0, 1) := by decide +kernel
theorem dX12_laysSome_1 : decode cX12_laysSome 1 = .ok (.istore_n 2, 1) := by decide +kernel
theorem dX12_laysSome_2 : decode cX12_laysSome 2 = .ok (.iconst 0, 1) := by decide +kernel
theorem dX12_laysSome_3 : decode cX12_laysSome 3 = .ok (.istore_n 3, 1) := by decide +kernel
theorem dX12_laysSome_4 : decode cX12_laysSome 4 = .ok (.iload_n 3, 1) := by decide +kernel
theorem dX12_laysSome_5 : decode cX12_laysSome 5 = .ok (.bipush 8, 2) := by decide +kernel
theorem dX12_laysSome_7 : decode cX12_laysSome 7 = .ok (.if_icmp .ge 51, 3) := by decide +kernel
theorem dX12_laysSome_10 : decode cX12_laysSome 10 = .ok (.iload_n 2, 1) := by decide +kernel
theorem dX12_laysSome_11 : decode cX12_laysSome 11 = .ok (.iload_n 1, 1) := by decide +kernel
theorem dX12_laysSome_12 : decode cX12_laysSome 12 = .ok (.if_icmp .ge 46, 3) := by decide +kernel
theorem dX12_laysSome_15 : decode cX12_laysSome 15 = .ok (.aload_n 0, 1) := by decide +kernel
theorem dX12_laysSome_16 : decode cX12_laysSome 16 = .ok (.iload_n 3, 1) := by decide +kernel
theorem dX12_laysSome_17 : decode cX12_laysSome 17 = .ok (.invokevirtual 259, 3) := by decide +kernel
theorem dX12_laysSome_20 : decode cX12_laysSome 20 = .ok (.ifCond .ne 6, 3) := by decide +kernel
theorem dX12_laysSome_23 : decode cX12_laysSome 23 = .ok (.goto 29, 3) := by decide +kernel
theorem dX12_laysSome_26 : decode cX12_laysSome 26 = .ok (.aload_n 0, 1) := by decide +kernel
theorem dX12_laysSome_27 : decode cX12_laysSome 27 = .ok (.getfield 68, 3) := by decide +kernel
theorem dX12_laysSome_30 : decode cX12_laysSome 30 = .ok (.iload_n 2, 1) := by decide +kernel
theorem dX12_laysSome_31 : decode cX12_laysSome 31 = .ok (.iload_n 3, 1) := by decide +kernel
theorem dX12_laysSome_32 : decode cX12_laysSome 32 = .ok (.iastore, 1) := by decide +kernel
theorem dX12_laysSome_33 : decode cX12_laysSome 33 = .ok (.aload_n 0, 1) := by decide +kernel
theorem dX12_laysSome_34 : decode cX12_laysSome 34 = .ok (.getfield 71, 3) := by decide +kernel
theorem dX12_laysSome_37 : decode cX12_laysSome 37 = .ok (.iload_n 2, 1) := by decide +kernel
theorem dX12_laysSome_38 : decode cX12_laysSome 38 = .ok (.aload_n 0, 1) := by decide +kernel
theorem dX12_laysSome_39 : decode cX12_laysSome 39 = .ok (.getfield 7, 3) := by decide +kernel
theorem dX12_laysSome_42 : decode cX12_laysSome 42 = .ok (.bipush 52, 2) := by decide +kernel
theorem dX12_laysSome_44 : decode cX12_laysSome 44 = .ok (.iload_n 3, 1) := by decide +kernel
theorem dX12_laysSome_45 : decode cX12_laysSome 45 = .ok (.iadd, 1) := by decide +kernel
theorem dX12_laysSome_46 : decode cX12_laysSome 46 = .ok (.iaload, 1) := by decide +kernel
theorem dX12_laysSome_47 : decode cX12_laysSome 47 = .ok (.iastore, 1) := by decide +kernel
theorem dX12_laysSome_48 : decode cX12_laysSome 48 = .ok (.iload_n 2, 1) := by decide +kernel
theorem dX12_laysSome_49 : decode cX12_laysSome 49 = .ok (.iconst 1, 1) := by decide +kernel
theorem dX12_laysSome_50 : decode cX12_laysSome 50 = .ok (.iadd, 1) := by decide +kernel
theorem dX12_laysSome_51 : decode cX12_laysSome 51 = .ok (.istore_n 2, 1) := by decide +kernel
theorem dX12_laysSome_52 : decode cX12_laysSome 52 = .ok (.iinc 3 1, 3) := by decide +kernel
theorem dX12_laysSome_55 : decode cX12_laysSome 55 = .ok (.goto (-51), 3) := by decide +kernel
theorem dX12_laysSome_58 : decode cX12_laysSome 58 = .ok (.iload_n 2, 1) := by decide +kernel
theorem dX12_laysSome_59 : decode cX12_laysSome 59 = .ok (.iload_n 1, 1) := by decide +kernel
theorem dX12_laysSome_60 : decode cX12_laysSome 60 = .ok (.if_icmp .ne 7, 3) := by decide +kernel
theorem dX12_laysSome_63 : decode cX12_laysSome 63 = .ok (.iconst 1, 1) := by decide +kernel
theorem dX12_laysSome_64 : decode cX12_laysSome 64 = .ok (.goto 4, 3) := by decide +kernel
theorem dX12_laysSome_67 : decode cX12_laysSome 67 = .ok (.iconst 0, 1) := by decide +kernel
theorem dX12_laysSome_68 : decode cX12_laysSome 68 = .ok (.ireturn, 1) := by decide +kernel
set_option maxRecDepth 100000 in
def f_m_laysSome (x1 : Int) (V : Nat → Nat → Int) (J : Nat → Nat → Int) (Rr : Nat → Nat → Nat) : (Int × (Nat → Nat → Int)) → Prop :=
  lop3 (10) (fun rc175 (z173 : Int) (z174 : Int) (V175 : Nat → Nat → Int) => jnk (fun (un218 : Unit) => (if ¬ z174 = x1 then rtn (0, V175) else rtn (1, V175))) fun jf218 => (if 8 ≤ z173 then jf218 (()) else (if x1 ≤ z174 then jf218 (()) else calR (f_m_isPerson z173 V175 J Rr) fun z222 => fct (0 ≤ z222 ∧ z222 ≤ 1) <| jnk (fun (z227 : Int) (V228 : Nat → Nat → Int) => rc175 (z173 + 1) z227 V228) fun jf228 => (if ¬ z222 = 0 then rdb (up2 V175 20 z174.toNat z173) fun V231 => rdb (V231 1 ((z173 + 52).toNat)) fun z232 => rdb (up2 V231 21 z174.toNat z232) fun V233 => jf228 (z174 + 1) V233 else jf228 z174 V175)))) 0 0 V
set_option maxHeartbeats 8000000 in
set_option maxRecDepth 100000 in
theorem m_laysSome (l : Launch) (D : va_G) (cy : Nat → ClassId) (ad : Nat → Nat) (G : Nat → Nat → Int) (V J : Nat → Nat → Int) (Rr : Nat → Nat → Nat) (hI : MI G V) (hJ : VJ J) (hR : MR Rr) (x1 : Int) (bx1 : -2147483648 ≤ x1 ∧ x1 ≤ 3) : xMi l D (xTY cy) yX12_laysSome cX12_laysSome 4 (some .boolean) 2 42 0 0 [.ref (ad 0), vI x1] (MW cy ad V J Rr) (fun u : Nat → Nat → Int => MW cy ad u J Rr) (fun a (u : Nat → Nat → Int) => MI G u ∧ (0 ≤ a ∧ a ≤ 1) ∧ FBm 58028439341502200385896448 V u ∧ (f_m_laysSome x1 V J Rr) (a, u)) := by
  refine xMi.mk (lv0 := [(0, .ref (ad 0)), (1, vI x1)]) (by decide) rfl (Nat.le_of_ble_eq_true rfl) (fun p e s m below meth c A C hr hnm hAe => ?_)
  have C : xC2 p s m _ meth c D A s.heap 4 cX12_laysSome RX12 (xTY cy) := C
  have hB : FBm 58028439341502200385896448 V V := FBm.rf _ _
  have hF := Imp.of_eq (f_m_laysSome.eq_def x1 V J Rr)
  refine x_iconst C.1 (n := 0) dX12_laysSome_0 ?_
  refine x_istore_n C.1 (lv' := [(2, vI 0), (0, .ref (ad 0)), (1, vI x1)]) dX12_laysSome_1 (by decide) rfl ?_
  refine x_iconst C.1 (n := 0) dX12_laysSome_2 ?_
  refine x_istore_n C.1 (lv' := [(3, vI 0), (2, vI 0), (0, .ref (ad 0)), (1, vI x1)]) dX12_laysSome_3 (by decide) rfl ?_
  obtain ⟨bd175, hbd175, hF⟩ := lop3_ex hF
  refine x_loop (I := fun x : Int × Int × (Nat → Nat → Int) => match x with | (z173, z174, V175) => (0 ≤ z173 ∧ z173 ≤ 8) ∧ (0 ≤ z174 ∧ z174 ≤ 3) ∧ MI G V175 ∧ FBm 58028439341502200385896448 V V175 ∧ (∃ nf : Nat, (9 - z173).toNat < nf ∧ Imp (lop3 nf bd175 z173 z174 V175) (f_m_laysSome x1 V J Rr))) (μ := fun x : Int × Int × (Nat → Nat → Int) => match x with | (z173, z174, V175) => (9 - z173).toNat) (wsf := fun x : Int × Int × (Nat → Nat → Int) => match x with | (z173, z174, V175) => MW cy ad V175 J Rr) (lvf := fun x : Int × Int × (Nat → Nat → Int) => match x with | (z173, z174, V175) => [(3, vI z173), (2, vI z174), (0, .ref (ad 0)), (1, vI x1)]) (fun x hI175x ih175 => ?_) (0, 0, V) ⟨⟨by decide, by decide⟩, ⟨by decide, by decide⟩, hI, hB, ⟨_, (by omega), hF⟩⟩ rfl rfl
  obtain ⟨z173, z174, V175⟩ := x
  obtain ⟨bz173, bz174, hI175, hB175, nf175, hn175, hF⟩ := hI175x
  try dsimp only
  obtain ⟨nf175, rfl⟩ : ∃ mm, nf175 = mm + 1 := ⟨nf175 - 1, (Nat.succ_pred_eq_of_pos (Nat.lt_of_le_of_lt (Nat.zero_le _) hn175)).symm⟩
  replace hF := hF.to (lop3_s hbd175)
  refine x_iload_n C.1 dX12_laysSome_4 0 rfl ?_
  refine x_bipush C.1 (n := 8) dX12_laysSome_5 ?_
  obtain ⟨jf218, hjf218, hF⟩ := jn_ex hF
  refine x_join (I := fun un218 : Unit => True ∧ Imp (jf218 un218) (f_m_laysSome x1 V J Rr)) (wsf := fun un218 : Unit => MW cy ad V175 J Rr) (lvf := fun un218 : Unit => [(3, vI z173), (2, vI z174), (0, .ref (ad 0)), (1, vI x1)]) (stf := fun un218 : Unit => []) 58 (fun un218 hI218x => ?_) (fun jn218 => ?_)
  · obtain ⟨_, hF⟩ := hI218x
    try dsimp only
    replace hF := hF.to (jn_s1 hjf218)
    refine x_iload_n C.1 dX12_laysSome_58 1 rfl ?_
    refine x_iload_n C.1 dX12_laysSome_59 3 rfl ?_
    refine x_icmp_ne C.1 (tgt := 67) dX12_laysSome_60 (by decide) (by omega) (by omega) (fun hc219 => ?_) (fun hc219 => ?_)
    · replace hF := hF.to (if_pos hc219)
      refine x_iconst C.1 (n := 0) dX12_laysSome_67 ?_
      exact x_zret (S := (Nat → Nat → Int)) (post := (fun a (u : Nat → Nat → Int) => MI G u ∧ (0 ≤ a ∧ a ≤ 1) ∧ FBm 58028439341502200385896448 V u ∧ (f_m_laysSome x1 V J Rr) (a, u))) (w1 := (fun u : Nat → Nat → Int => MW cy ad u J Rr)) (a := 0) C hr rfl dX12_laysSome_68 (by decide) V175 rfl ⟨hI175, ⟨by decide, by decide⟩, hB175, hF _ rfl⟩
    · replace hF := hF.to (if_neg (fun hh => hh hc219))
      refine x_iconst C.1 (n := 1) dX12_laysSome_63 ?_
      refine x_goto C.1 (tgt := 68) dX12_laysSome_64 (by decide) ?_
      exact x_zret (S := (Nat → Nat → Int)) (post := (fun a (u : Nat → Nat → Int) => MI G u ∧ (0 ≤ a ∧ a ≤ 1) ∧ FBm 58028439341502200385896448 V u ∧ (f_m_laysSome x1 V J Rr) (a, u))) (w1 := (fun u : Nat → Nat → Int => MW cy ad u J Rr)) (a := 1) C hr rfl dX12_laysSome_68 (by decide) V175 rfl ⟨hI175, ⟨by decide, by decide⟩, hB175, hF _ rfl⟩
  · refine x_icmp_ge C.1 (tgt := 58) dX12_laysSome_7 (by decide) (by omega) (by decide) (fun hc220 => ?_) (fun hc220 => ?_)
    · replace hF := hF.to (if_pos hc220)
      exact jn218 (()) ⟨trivial, hF⟩
    · replace hF := hF.to (if_neg hc220)
      refine x_iload_n C.1 dX12_laysSome_10 1 rfl ?_
      refine x_iload_n C.1 dX12_laysSome_11 3 rfl ?_
      refine x_icmp_ge C.1 (tgt := 58) dX12_laysSome_12 (by decide) (by omega) (by omega) (fun hc221 => ?_) (fun hc221 => ?_)
      · replace hF := hF.to (if_pos hc221)
        exact jn218 (()) ⟨trivial, hF⟩
      · replace hF := hF.to (if_neg hc221)
        refine x_aload_n C.1 dX12_laysSome_15 2 rfl ?_
        refine x_iload_n C.1 dX12_laysSome_16 0 rfl ?_
        refine x_callVi C (As := [vI z173]) (rest := []) 0 (xw_at (N := 33) (i := 0) (by decide) rfl) vc_X12 (m_isPerson l D cy ad G V175 J Rr hI175 hJ hR z173 ⟨by omega, by omega⟩) (l1 := []) (l2 := []) (List.append_nil _).symm (w2 := fun _ => MW cy ad V175 J Rr) (fun _ => List.append_nil _) rfl wm_yX12_isPerson wn_X12 wl_X12_259 wi_yX12_isPerson we_yX12_isPerson hd_yX12_isPerson rfl ⟨Nat.le_of_ble_eq_true rfl, Nat.le_of_ble_eq_true rfl⟩ (Nat.le_of_ble_eq_true rfl) ⟨Nat.le_of_ble_eq_true rfl, Nat.le_of_ble_eq_true rfl⟩ dX12_laysSome_17 (fun z222 u222 bz222 h222 => ?_)
        obtain ⟨hon222, hFc222⟩ := h222
        replace hF := calR_i hF hFc222
        replace hF := hF.fc hon222.r
        have bq222 := Sp.r hon222
        obtain ⟨jf228, hjf228, hF⟩ := jn_ex hF
        refine x_join (I := fun x : Int × (Nat → Nat → Int) => match x with | (z227, V228) => (0 ≤ z227 ∧ z227 ≤ 3) ∧ MI G V228 ∧ FBm 58028439341502200385896448 V V228 ∧ Imp (jf228 z227 V228) (f_m_laysSome x1 V J Rr)) (wsf := fun x : Int × (Nat → Nat → Int) => match x with | (z227, V228) => MW cy ad V228 J Rr) (lvf := fun x : Int × (Nat → Nat → Int) => match x with | (z227, V228) => [(2, vI z227), (3, vI z173), (0, .ref (ad 0)), (1, vI x1)]) (stf := fun x : Int × (Nat → Nat → Int) => match x with | (z227, V228) => []) 52 (fun x hI228x => ?_) (fun jn228 => ?_)
        · obtain ⟨z227, V228⟩ := x
          obtain ⟨bz227, hI228, hB228, hF⟩ := hI228x
          try dsimp only
          replace hF := hF.to (jn_s2 hjf228)
          refine x_iinc C.1 (v := z173 + 1) (lv' := [(3, vI (z173 + 1)), (2, vI z227), (0, .ref (ad 0)), (1, vI x1)]) (by omega) dX12_laysSome_52 1 rfl (by decide) rfl ?_
          refine x_goto C.1 (tgt := 4) dX12_laysSome_55 (by decide) ?_
          have hmu175 : (9 - (z173 + 1)).toNat < (9 - z173).toNat := (by omega)
          exact ih175 (z173 + 1, z227, V228) ⟨⟨by omega, by omega⟩, ⟨by omega, by omega⟩, hI228, hB228, ⟨nf175, Nat.lt_of_lt_of_le hmu175 (Nat.le_of_lt_succ hn175), hF⟩⟩ hmu175
        · refine x_if_ne C.1 (tgt := 26) dX12_laysSome_20 (by decide) (by omega) (fun hc229 => ?_) (fun hc229 => ?_)
          · replace hF := hF.to (if_pos hc229)
            have hon230 := Sp.on hon222 (by omega)
            refine x_aload_n C.1 dX12_laysSome_26 2 rfl ?_
            refine x_getA C (N := 33) (i := 0) (by decide) rfl vc_X12 wx_X12 35 (by decide) wf_X12_68 (a := 20) rfl dX12_laysSome_27 ?_
            refine x_iload_n C.1 dX12_laysSome_30 1 rfl ?_
            refine x_iload_n C.1 dX12_laysSome_31 0 rfl ?_
            refine x_iast C (N := 33) (i := 20) (q := z174) (a := z173) (by decide) rfl (by omega) (by decide) dX12_laysSome_32 ?_
            refine x_gV ?_
            intro V231 hV231
            have hI231 : MI G V231 := hI175.up hV231 rfl (by omega) rfl (Or.inl (by decide))
            have hB231 := hB175.up hV231 (by rw [mkey_r (by decide)]; rfl)
            replace hF := hF.to (rdb_e (z := V231) hV231.symm)
            refine x_aload_n C.1 dX12_laysSome_33 2 rfl ?_
            refine x_getA C (N := 33) (i := 0) (by decide) rfl vc_X12 wx_X12 36 (by decide) wf_X12_71 (a := 21) rfl dX12_laysSome_34 ?_
            refine x_iload_n C.1 dX12_laysSome_37 1 rfl ?_
            refine x_aload_n C.1 dX12_laysSome_38 2 rfl ?_
            refine x_getA C (N := 33) (i := 0) (by decide) rfl vc_X12 wx_X12 0 (by decide) wf_X12_7 (a := 1) rfl dX12_laysSome_39 ?_
            refine x_bipush C.1 (n := 52) dX12_laysSome_42 ?_
            refine x_iload_n C.1 dX12_laysSome_44 0 rfl ?_
            refine x_iadd C.1 (v := z173 + 52) (by omega) dX12_laysSome_45 ?_
            obtain ⟨z232, ez232, bz232⟩ := hI231.rd 1 ((z173 + 52).toNat) (x := -2147483648) (y := 2147483647) (rgN_60 (Or.inl rfl) (by omega))
            replace hF := hF.to (rdb_e (z := z232) ez232)
            refine x_iald C (N := 33) (i := 1) (q := z173 + 52) (by decide) rfl (by omega) (by decide) dX12_laysSome_46 (a := z232) ez232 ?_
            refine x_iast C (N := 33) (i := 21) (q := z174) (a := z232) (by decide) rfl (by omega) (by decide) dX12_laysSome_47 ?_
            refine x_gV ?_
            intro V233 hV233
            have hI233 : MI G V233 := hI231.up hV233 rfl (by omega) rfl (Or.inl (by decide))
            have hB233 := hB231.up hV233 (by rw [mkey_r (by decide)]; rfl)
            replace hF := hF.to (rdb_e (z := V233) hV233.symm)
            refine x_iload_n C.1 dX12_laysSome_48 1 rfl ?_
            refine x_iconst C.1 (n := 1) dX12_laysSome_49 ?_
            refine x_iadd C.1 (v := z174 + 1) (by omega) dX12_laysSome_50 ?_
            refine x_istore_n C.1 (lv' := [(2, vI (z174 + 1)), (3, vI z173), (0, .ref (ad 0)), (1, vI x1)]) dX12_laysSome_51 (by decide) rfl ?_
            exact jn228 (z174 + 1, V233) ⟨⟨by omega, by omega⟩, hI233, hB233, hF⟩
          · replace hF := hF.to (if_neg (fun hh => hh hc229))
            refine x_goto C.1 (tgt := 52) dX12_laysSome_23 (by decide) ?_
            refine x_lv [(2, vI z174), (3, vI z173), (0, .ref (ad 0)), (1, vI x1)] [1, 0, 2, 3] rfl ?_
            exact jn228 (z174, V175) ⟨⟨by omega, by omega⟩, hI175, hB175, hF⟩
theorem dX12_stateOf_0 : decode cX12_stateOf 0 = .ok (.bipush 20, 2) := by decide +kernel
theorem dX12_stateOf_2 : decode cX12_stateOf 2 = .ok (.iload_n 0, 1) := by decide +kernel
theorem dX12_stateOf_3 : decode cX12_stateOf 3 = .ok (.imul, 1) := by decide +kernel
theorem dX12_stateOf_4 : decode cX12_stateOf 4 = .ok (.iload_n 2, 1) := by decide +kernel
theorem dX12_stateOf_5 : decode cX12_stateOf 5 = .ok (.ifCond .le 10, 3) := by decide +kernel
theorem dX12_stateOf_8 : decode cX12_stateOf 8 = .ok (.bipush 10, 2) := by decide +kernel
theorem dX12_stateOf_10 : decode cX12_stateOf 10 = .ok (.iload_n 2, 1) := by decide +kernel
theorem dX12_stateOf_11 : decode cX12_stateOf 11 = .ok (.iadd, 1) := by decide +kernel
theorem dX12_stateOf_12 : decode cX12_stateOf 12 = .ok (.goto 4, 3) := by decide +kernel
theorem dX12_stateOf_15 : decode cX12_stateOf 15 = .ok (.iload_n 1, 1) := by decide +kernel
theorem dX12_stateOf_16 : decode cX12_stateOf 16 = .ok (.iadd, 1) := by decide +kernel
theorem dX12_stateOf_17 : decode cX12_stateOf 17 = .ok (.ireturn, 1) := by decide +kernel
set_option maxRecDepth 100000 in
def f_m_stateOf (x0 : Int) (x1 : Int) (x2 : Int) : (Int) → Prop :=
  (if x2 ≤ 0 then rtn (20 * x0 + x1) else rtn (20 * x0 + x2 + 10))
set_option maxHeartbeats 8000000 in
set_option maxRecDepth 100000 in
theorem m_stateOf (l : Launch) (D : va_G) (cy : Nat → ClassId) (x0 : Int) (bx0 : 0 ≤ x0 ∧ x0 ≤ 24) (x1 : Int) (bx1 : 0 ≤ x1 ∧ x1 ≤ 9) (x2 : Int) (bx2 : 0 ≤ x2 ∧ x2 ≤ 9) : xMi l D (xTY cy) yX12_stateOf cX12_stateOf 3 (some .int) 0 0 0 0 [vI x0, vI x1, vI x2] [] (fun _ : Unit => []) (fun a (u : Unit) => (0 ≤ a ∧ a ≤ 499) ∧ (f_m_stateOf x0 x1 x2) a) := by
  refine xMi.mk (lv0 := [(0, vI x0), (1, vI x1), (2, vI x2)]) (by decide) rfl (Nat.le_of_ble_eq_true rfl) (fun p e s m below meth c A C hr hnm hAe => ?_)
  have C : xC2 p s m _ meth c D A s.heap 3 cX12_stateOf RX12 (xTY cy) := C
  have hF := Imp.of_eq (f_m_stateOf.eq_def x0 x1 x2)
  refine x_bipush C.1 (n := 20) dX12_stateOf_0 ?_
  refine x_iload_n C.1 dX12_stateOf_2 0 rfl ?_
  refine x_imul C.1 (v := 20 * x0) (by omega) dX12_stateOf_3 ?_
  refine x_iload_n C.1 dX12_stateOf_4 2 rfl ?_
  refine x_if_le C.1 (tgt := 15) dX12_stateOf_5 (by decide) (by omega) (fun hc1 => ?_) (fun hc1 => ?_)
  · replace hF := hF.to (if_pos hc1)
    refine x_iload_n C.1 dX12_stateOf_15 1 rfl ?_
    refine x_iadd C.1 (v := 20 * x0 + x1) (by omega) dX12_stateOf_16 ?_
    exact x_iret (S := Unit) (post := (fun a (u : Unit) => (0 ≤ a ∧ a ≤ 499) ∧ (f_m_stateOf x0 x1 x2) a)) (w1 := (fun _ : Unit => [])) (a := 20 * x0 + x1) C hr rfl dX12_stateOf_17 (by omega) () rfl ⟨⟨by omega, by omega⟩, hF _ rfl⟩
  · replace hF := hF.to (if_neg hc1)
    refine x_bipush C.1 (n := 10) dX12_stateOf_8 ?_
    refine x_iload_n C.1 dX12_stateOf_10 2 rfl ?_
    refine x_iadd C.1 (v := x2 + 10) (by omega) dX12_stateOf_11 ?_
    refine x_goto C.1 (tgt := 16) dX12_stateOf_12 (by decide) ?_
    refine x_iadd C.1 (v := 20 * x0 + x2 + 10) (by omega) dX12_stateOf_16 ?_
    exact x_iret (S := Unit) (post := (fun a (u : Unit) => (0 ≤ a ∧ a ≤ 499) ∧ (f_m_stateOf x0 x1 x2) a)) (w1 := (fun _ : Unit => [])) (a := 20 * x0 + x2 + 10) C hr rfl dX12_stateOf_17 (by omega) () rfl ⟨⟨by omega, by omega⟩, hF _ rfl⟩
theorem dX12_dryIn_0 : decode cX12_dryIn 0 = .ok (.iload_n 0, 1) := by decide +kernel
theorem dX12_dryIn_1 : decode cX12_dryIn 1 = .ok (.bipush 20, 2) := by decide +kernel
theorem dX12_dryIn_3 : decode cX12_dryIn 3 = .ok (.irem, 1) := by decide +kernel
theorem dX12_dryIn_4 : decode cX12_dryIn 4 = .ok (.bipush 10, 2) := by decide +kernel
theorem dX12_dryIn_6 : decode cX12_dryIn 6 = .ok (.if_icmp .ge 10, 3) := by decide +kernel
theorem dX12_dryIn_9 : decode cX12_dryIn 9 = .ok (.iload_n 0, 1) := by decide +kernel
theorem dX12_dryIn_10 : decode cX12_dryIn 10 = .ok (.bipush 20, 2) := by decide +kernel
theorem dX12_dryIn_12 : decode cX12_dryIn 12 = .ok (.irem, 1) := by decide +kernel
theorem dX12_dryIn_13 : decode cX12_dryIn 13 = .ok (.goto 4, 3) := by decide +kernel
theorem dX12_dryIn_16 : decode cX12_dryIn 16 = .ok (.iconst 0, 1) := by decide +kernel
theorem dX12_dryIn_17 : decode cX12_dryIn 17 = .ok (.ireturn, 1) := by decide +kernel
set_option maxRecDepth 100000 in
def f_m_dryIn (x0 : Int) : (Int) → Prop :=
  rdb (iRem x0 20) fun z1 => fct (0 ≤ z1 ∧ z1 ≤ 19) <| (if 10 ≤ z1 then rtn 0 else rdb (iRem x0 20) fun z3 => fct (0 ≤ z3 ∧ z3 ≤ 19) <| rtn z3)
set_option maxHeartbeats 8000000 in
set_option maxRecDepth 100000 in
theorem m_dryIn (l : Launch) (D : va_G) (cy : Nat → ClassId) (x0 : Int) (bx0 : 0 ≤ x0 ∧ x0 ≤ 499) : xMi l D (xTY cy) yX12_dryIn cX12_dryIn 1 (some .int) 0 0 0 0 [vI x0] [] (fun _ : Unit => []) (fun a (u : Unit) => (0 ≤ a ∧ a ≤ 9) ∧ (f_m_dryIn x0) a) := by
  refine xMi.mk (lv0 := [(0, vI x0)]) (by decide) rfl (Nat.le_of_ble_eq_true rfl) (fun p e s m below meth c A C hr hnm hAe => ?_)
  have C : xC2 p s m _ meth c D A s.heap 1 cX12_dryIn RX12 (xTY cy) := C
  have hF := Imp.of_eq (f_m_dryIn.eq_def x0)
  refine x_iload_n C.1 dX12_dryIn_0 0 rfl ?_
  refine x_bipush C.1 (n := 20) dX12_dryIn_1 ?_
  obtain ⟨z1, hz1, bz1⟩ : ∃ z : Int, iRem x0 20 = z ∧ (0 ≤ z ∧ z ≤ 19) := ⟨_, rfl, iRem_n (by omega) (by omega)⟩
  replace hF := hF.to (rdb_e (z := z1) hz1)
  replace hF := hF.fc bz1
  refine x_irem C.1 (v := z1) hz1 dX12_dryIn_3 (by decide) (by decide) ?_
  refine x_bipush C.1 (n := 10) dX12_dryIn_4 ?_
  refine x_icmp_ge C.1 (tgt := 16) dX12_dryIn_6 (by decide) (by omega) (by decide) (fun hc2 => ?_) (fun hc2 => ?_)
  · replace hF := hF.to (if_pos hc2)
    refine x_iconst C.1 (n := 0) dX12_dryIn_16 ?_
    exact x_iret (S := Unit) (post := (fun a (u : Unit) => (0 ≤ a ∧ a ≤ 9) ∧ (f_m_dryIn x0) a)) (w1 := (fun _ : Unit => [])) (a := 0) C hr rfl dX12_dryIn_17 (by decide) () rfl ⟨⟨by decide, by decide⟩, hF _ rfl⟩
  · replace hF := hF.to (if_neg hc2)
    refine x_iload_n C.1 dX12_dryIn_9 0 rfl ?_
    refine x_bipush C.1 (n := 20) dX12_dryIn_10 ?_
    obtain ⟨z3, hz3, bz3⟩ : ∃ z : Int, iRem x0 20 = z ∧ (0 ≤ z ∧ z ≤ 19) := ⟨_, rfl, iRem_n (by omega) (by omega)⟩
    replace hF := hF.to (rdb_e (z := z3) hz3)
    replace hF := hF.fc bz3
    refine x_irem C.1 (v := z3) hz3 dX12_dryIn_12 (by decide) (by decide) ?_
    refine x_goto C.1 (tgt := 17) dX12_dryIn_13 (by decide) ?_
    exact x_iret (S := Unit) (post := (fun a (u : Unit) => (0 ≤ a ∧ a ≤ 9) ∧ (f_m_dryIn x0) a)) (w1 := (fun _ : Unit => [])) (a := z3) C hr rfl dX12_dryIn_17 (by omega) () rfl ⟨⟨by omega, by omega⟩, hF _ rfl⟩
theorem dX12_drownedIn_0 : decode cX12_drownedIn 0 = .ok (.iload_n 0, 1) := by decide +kernel
theorem dX12_drownedIn_1 : decode cX12_drownedIn 1 = .ok (.bipush 20, 2) := by decide +kernel
theorem dX12_drownedIn_3 : decode cX12_drownedIn 3 = .ok (.irem, 1) := by decide +kernel
theorem dX12_drownedIn_4 : decode cX12_drownedIn 4 = .ok (.bipush 10, 2) := by decide +kernel
theorem dX12_drownedIn_6 : decode cX12_drownedIn 6 = .ok (.if_icmp .ge 7, 3) := by decide +kernel
theorem dX12_drownedIn_9 : decode cX12_drownedIn 9 = .ok (.iconst 0, 1) := by decide +kernel
theorem dX12_drownedIn_10 : decode cX12_drownedIn 10 = .ok (.goto 10, 3) := by decide +kernel
theorem dX12_drownedIn_13 : decode cX12_drownedIn 13 = .ok (.iload_n 0, 1) := by decide +kernel
theorem dX12_drownedIn_14 : decode cX12_drownedIn 14 = .ok (.bipush 20, 2) := by decide +kernel
theorem dX12_drownedIn_16 : decode cX12_drownedIn 16 = .ok (.irem, 1) := by decide +kernel
theorem dX12_drownedIn_17 : decode cX12_drownedIn 17 = .ok (.bipush 10, 2) := by decide +kernel
theorem dX12_drownedIn_19 : decode cX12_drownedIn 19 = .ok (.isub, 1) := by decide +kernel
theorem dX12_drownedIn_20 : decode cX12_drownedIn 20 = .ok (.ireturn, 1) := by decide +kernel
set_option maxRecDepth 100000 in
def f_m_drownedIn (x0 : Int) : (Int) → Prop :=
  rdb (iRem x0 20) fun z1 => fct (0 ≤ z1 ∧ z1 ≤ 19) <| (if 10 ≤ z1 then rdb (iRem x0 20) fun z3 => fct (0 ≤ z3 ∧ z3 ≤ 19) <| rtn (z3 - 10) else rtn 0)
set_option maxHeartbeats 8000000 in
set_option maxRecDepth 100000 in
theorem m_drownedIn (l : Launch) (D : va_G) (cy : Nat → ClassId) (x0 : Int) (bx0 : 0 ≤ x0 ∧ x0 ≤ 499) : xMi l D (xTY cy) yX12_drownedIn cX12_drownedIn 1 (some .int) 0 0 0 0 [vI x0] [] (fun _ : Unit => []) (fun a (u : Unit) => (0 ≤ a ∧ a ≤ 9) ∧ (f_m_drownedIn x0) a) := by
  refine xMi.mk (lv0 := [(0, vI x0)]) (by decide) rfl (Nat.le_of_ble_eq_true rfl) (fun p e s m below meth c A C hr hnm hAe => ?_)
  have C : xC2 p s m _ meth c D A s.heap 1 cX12_drownedIn RX12 (xTY cy) := C
  have hF := Imp.of_eq (f_m_drownedIn.eq_def x0)
  refine x_iload_n C.1 dX12_drownedIn_0 0 rfl ?_
  refine x_bipush C.1 (n := 20) dX12_drownedIn_1 ?_
  obtain ⟨z1, hz1, bz1⟩ : ∃ z : Int, iRem x0 20 = z ∧ (0 ≤ z ∧ z ≤ 19) := ⟨_, rfl, iRem_n (by omega) (by omega)⟩
  replace hF := hF.to (rdb_e (z := z1) hz1)
  replace hF := hF.fc bz1
  refine x_irem C.1 (v := z1) hz1 dX12_drownedIn_3 (by decide) (by decide) ?_
  refine x_bipush C.1 (n := 10) dX12_drownedIn_4 ?_
  refine x_icmp_ge C.1 (tgt := 13) dX12_drownedIn_6 (by decide) (by omega) (by decide) (fun hc2 => ?_) (fun hc2 => ?_)
  · replace hF := hF.to (if_pos hc2)
    refine x_iload_n C.1 dX12_drownedIn_13 0 rfl ?_
    refine x_bipush C.1 (n := 20) dX12_drownedIn_14 ?_
    obtain ⟨z3, hz3, bz3⟩ : ∃ z : Int, iRem x0 20 = z ∧ (0 ≤ z ∧ z ≤ 19) := ⟨_, rfl, iRem_n (by omega) (by omega)⟩
    replace hF := hF.to (rdb_e (z := z3) hz3)
    replace hF := hF.fc bz3
    refine x_irem C.1 (v := z3) hz3 dX12_drownedIn_16 (by decide) (by decide) ?_
    refine x_bipush C.1 (n := 10) dX12_drownedIn_17 ?_
    refine x_isub C.1 (v := z3 - 10) (by omega) dX12_drownedIn_19 ?_
    exact x_iret (S := Unit) (post := (fun a (u : Unit) => (0 ≤ a ∧ a ≤ 9) ∧ (f_m_drownedIn x0) a)) (w1 := (fun _ : Unit => [])) (a := z3 - 10) C hr rfl dX12_drownedIn_20 (by omega) () rfl ⟨⟨by omega, by omega⟩, hF _ rfl⟩
  · replace hF := hF.to (if_neg hc2)
    refine x_iconst C.1 (n := 0) dX12_drownedIn_9 ?_
    refine x_goto C.1 (tgt := 20) dX12_drownedIn_10 (by decide) ?_
    exact x_iret (S := Unit) (post := (fun a (u : Unit) => (0 ≤ a ∧ a ≤ 9) ∧ (f_m_drownedIn x0) a)) (w1 := (fun _ : Unit => [])) (a := 0) C hr rfl dX12_drownedIn_20 (by decide) () rfl ⟨⟨by decide, by decide⟩, hF _ rfl⟩
theorem hd_yX12_laysSome : yX12_laysSome.cls ≠ "java/lang/invoke/MethodHandle" ∧ yX12_laysSome.cls ≠ "java/lang/invoke/VarHandle" ∧ (parseMethodDescriptor yX12_laysSome.desc).map (fun d => d.parameters.length) = some 1 := by decide +kernel
theorem dX12_canGo_0 : decode cX12_canGo 0 = .ok (.aload_n 0, 1) := by decide +kernel
theorem dX12_canGo_1 : decode cX12_canGo 1 = .ok (.iload_n 1, 1) := by decide +kernel
theorem dX12_canGo_2 : decode cX12_canGo 2 = .ok (.invokevirtual 130, 3) := by decide +kernel
theorem dX12_canGo_5 : decode cX12_canGo 5 = .ok (.ifCond .eq 40, 3) := by decide +kernel
theorem dX12_canGo_8 : decode cX12_canGo 8 = .ok (.iload_n 2, 1) := by decide +kernel
theorem dX12_canGo_9 : decode cX12_canGo 9 = .ok (.iconst 1, 1) := by decide +kernel
theorem dX12_canGo_10 : decode cX12_canGo 10 = .ok (.bipush 9, 2) := by decide +kernel
theorem dX12_canGo_12 : decode cX12_canGo 12 = .ok (.invokestatic 126, 3) := by decide +kernel
theorem dX12_canGo_15 : decode cX12_canGo 15 = .ok (.ifCond .eq 30, 3) := by decide +kernel
theorem dX12_canGo_18 : decode cX12_canGo 18 = .ok (.iload_n 3, 1) := by decide +kernel
theorem dX12_canGo_19 : decode cX12_canGo 19 = .ok (.iconst 1, 1) := by decide +kernel
theorem dX12_canGo_20 : decode cX12_canGo 20 = .ok (.iconst 3, 1) := by decide +kernel
theorem dX12_canGo_21 : decode cX12_canGo 21 = .ok (.invokestatic 126, 3) := by decide +kernel
theorem dX12_canGo_24 : decode cX12_canGo 24 = .ok (.ifCond .eq 21, 3) := by decide +kernel
theorem dX12_canGo_27 : decode cX12_canGo 27 = .ok (.iload_n 2, 1) := by decide +kernel
theorem dX12_canGo_28 : decode cX12_canGo 28 = .ok (.iload_n 3, 1) := by decide +kernel
theorem dX12_canGo_29 : decode cX12_canGo 29 = .ok (.iconst 1, 1) := by decide +kernel
theorem dX12_canGo_30 : decode cX12_canGo 30 = .ok (.iadd, 1) := by decide +kernel
theorem dX12_canGo_31 : decode cX12_canGo 31 = .ok (.imul, 1) := by decide +kernel
theorem dX12_canGo_32 : decode cX12_canGo 32 = .ok (.bipush 18, 2) := by decide +kernel
theorem dX12_canGo_34 : decode cX12_canGo 34 = .ok (.if_icmp .gt 11, 3) := by decide +kernel
theorem dX12_canGo_37 : decode cX12_canGo 37 = .ok (.aload_n 0, 1) := by decide +kernel
theorem dX12_canGo_38 : decode cX12_canGo 38 = .ok (.iload_n 3, 1) := by decide +kernel
theorem dX12_canGo_39 : decode cX12_canGo 39 = .ok (.invokevirtual 339, 3) := by decide +kernel
theorem dX12_canGo_42 : decode cX12_canGo 42 = .ok (.ifCond .ne 5, 3) := by decide +kernel
theorem dX12_canGo_45 : decode cX12_canGo 45 = .ok (.iconst 0, 1) := by decide +kernel
theorem dX12_canGo_46 : decode cX12_canGo 46 = .ok (.ireturn, 1) := by decide +kernel
theorem dX12_canGo_47 : decode cX12_canGo 47 = .ok (.aload_n 0, 1) := by decide +kernel
theorem dX12_canGo_48 : decode cX12_canGo 48 = .ok (.iload_n 1, 1) := by decide +kernel
theorem dX12_canGo_49 : decode cX12_canGo 49 = .ok (.putfield 298, 3) := by decide +kernel
theorem dX12_canGo_52 : decode cX12_canGo 52 = .ok (.aload_n 0, 1) := by decide +kernel
theorem dX12_canGo_53 : decode cX12_canGo 53 = .ok (.aload_n 0, 1) := by decide +kernel
theorem dX12_canGo_54 : decode cX12_canGo 54 = .ok (.getfield 7, 3) := by decide +kernel
theorem dX12_canGo_57 : decode cX12_canGo 57 = .ok (.iconst 4, 1) := by decide +kernel
theorem dX12_canGo_58 : decode cX12_canGo 58 = .ok (.iload_n 1, 1) := by decide +kernel
theorem dX12_canGo_59 : decode cX12_canGo 59 = .ok (.iadd, 1) := by decide +kernel
theorem dX12_canGo_60 : decode cX12_canGo 60 = .ok (.iaload, 1) := by decide +kernel
theorem dX12_canGo_61 : decode cX12_canGo 61 = .ok (.putfield 301, 3) := by decide +kernel
theorem dX12_canGo_64 : decode cX12_canGo 64 = .ok (.iconst 1, 1) := by decide +kernel
theorem dX12_canGo_65 : decode cX12_canGo 65 = .ok (.ireturn, 1) := by decide +kernel
set_option maxRecDepth 100000 in
def f_m_canGo (x1 : Int) (x2 : Int) (x3 : Int) (V : Nat → Nat → Int) (J : Nat → Nat → Int) (Rr : Nat → Nat → Nat) : (Int × (Nat → Nat → Int)) → Prop :=
  calR (f_m_lives x1 V J Rr) fun z1 => fct (0 ≤ z1 ∧ z1 ≤ 1) <| (if z1 = 0 then rtn (0, V) else rdb (V 1 ((x1 + 12).toNat)) fun z4 => fct (0 ≤ z4 ∧ z4 ≤ 8) <| rdb (V 1 ((x1 + 16).toNat)) fun z5 => fct (0 ≤ z5 ∧ z5 ≤ 8) <| calR (f_m_in x2 1 9) fun z6 => fct (0 ≤ z6 ∧ z6 ≤ 1) <| (if z6 = 0 then rtn (0, V) else calR (f_m_in x3 1 3) fun z9 => fct (0 ≤ z9 ∧ z9 ≤ 1) <| (if z9 = 0 then rtn (0, V) else rdb (x2 * (x3 + 1)) fun z12 => fct (0 ≤ z12 ∧ z12 ≤ 36) <| (if 18 < z12 then rtn (0, V) else calVM 58028439341502200385896448 V (f_m_laysSome x3 V J Rr) fun z14 V14 => fct (0 ≤ z14 ∧ z14 ≤ 1) <| (if ¬ z14 = 0 then rdb (up2 V14 0 33 x1) fun V16 => rdb (V16 1 ((x1 + 4).toNat)) fun z17 => fct (0 ≤ z17 ∧ z17 ≤ 24) <| rdb (up2 V16 0 34 z17) fun V18 => rtn (1, V18) else rtn (0, V14))))))
set_option maxHeartbeats 8000000 in
set_option maxRecDepth 100000 in
theorem m_canGo (l : Launch) (D : va_G) (cy : Nat → ClassId) (ad : Nat → Nat) (G : Nat → Nat → Int) (V J : Nat → Nat → Int) (Rr : Nat → Nat → Nat) (hI : MI G V) (hJ : VJ J) (hR : MR Rr) (x1 : Int) (bx1 : -2147483648 ≤ x1 ∧ x1 ≤ 2147483647) (x2 : Int) (bx2 : -2147483648 ≤ x2 ∧ x2 ≤ 2147483647) (x3 : Int) (bx3 : -2147483648 ≤ x3 ∧ x3 ≤ 2147483647) : xMi l D (xTY cy) yX12_canGo cX12_canGo 4 (some .boolean) 3 65 0 0 [.ref (ad 0), vI x1, vI x2, vI x3] (MW cy ad V J Rr) (fun u : Nat → Nat → Int => MW cy ad u J Rr) (fun a (u : Nat → Nat → Int) => MI G u ∧ (0 ≤ a ∧ a ≤ 1) ∧ (Sp a ((0 ≤ x1 ∧ x1 ≤ 3) ∧ (1 ≤ x2 ∧ x2 ≤ 9) ∧ (1 ≤ x3 ∧ x3 ≤ 3) ∧ x2 * (x3 + 1) ≤ 18)) ∧ FBm 58028439341502226155700224 V u ∧ (f_m_canGo x1 x2 x3 V J Rr) (a, u)) := by
  refine xMi.mk (lv0 := [(0, .ref (ad 0)), (1, vI x1), (2, vI x2), (3, vI x3)]) (by decide) rfl (Nat.le_of_ble_eq_true rfl) (fun p e s m below meth c A C hr hnm hAe => ?_)
  have C : xC2 p s m _ meth c D A s.heap 4 cX12_canGo RX12 (xTY cy) := C
  have hB : FBm 58028439341502226155700224 V V := FBm.rf _ _
  have hF := Imp.of_eq (f_m_canGo.eq_def x1 x2 x3 V J Rr)
  refine x_aload_n C.1 dX12_canGo_0 0 rfl ?_
  refine x_iload_n C.1 dX12_canGo_1 1 rfl ?_
  refine x_callVi C (As := [vI x1]) (rest := []) 0 (xw_at (N := 33) (i := 0) (by decide) rfl) vc_X12 (m_lives l D cy ad G V J Rr hI hJ hR x1 ⟨by omega, by omega⟩) (l1 := []) (l2 := []) (List.append_nil _).symm (w2 := fun _ => MW cy ad V J Rr) (fun _ => List.append_nil _) rfl wm_yX12_lives wn_X12 wl_X12_130 wi_yX12_lives we_yX12_lives hd_yX12_lives rfl ⟨Nat.le_of_ble_eq_true rfl, Nat.le_of_ble_eq_true rfl⟩ (Nat.le_of_ble_eq_true rfl) ⟨Nat.le_of_ble_eq_true rfl, Nat.le_of_ble_eq_true rfl⟩ dX12_canGo_2 (fun z1 u1 bz1 h1 => ?_)
  obtain ⟨bq1, hx1_0, hFc1⟩ := h1
  replace hF := calR_i hF hFc1
  replace hF := hF.fc bq1
  refine x_if_eq C.1 (tgt := 45) dX12_canGo_5 (by decide) (by omega) (fun hc2 => ?_) (fun hc2 => ?_)
  · replace hF := hF.to (if_pos hc2)
    refine x_iconst C.1 (n := 0) dX12_canGo_45 ?_
    exact x_zret (S := (Nat → Nat → Int)) (post := (fun a (u : Nat → Nat → Int) => MI G u ∧ (0 ≤ a ∧ a ≤ 1) ∧ (Sp a ((0 ≤ x1 ∧ x1 ≤ 3) ∧ (1 ≤ x2 ∧ x2 ≤ 9) ∧ (1 ≤ x3 ∧ x3 ≤ 3) ∧ x2 * (x3 + 1) ≤ 18)) ∧ FBm 58028439341502226155700224 V u ∧ (f_m_canGo x1 x2 x3 V J Rr) (a, u))) (w1 := (fun u : Nat → Nat → Int => MW cy ad u J Rr)) (a := 0) C hr rfl dX12_canGo_46 (by decide) V rfl ⟨hI, ⟨by decide, by decide⟩, (Or.inl rfl), hB, hF _ rfl⟩
  · replace hF := hF.to (if_neg hc2)
    have hon3 := Sp.on hx1_0 (by omega)
    obtain ⟨z4, ez4, bz4⟩ := hI.rd 1 ((x1 + 12).toNat) (x := 0) (y := 9) (rgN_20 (Or.inl rfl) (by omega))
    have by4 : z4 ≤ 8 := by rw [← ez4, show (x1 + 12).toNat = 12 + x1.toNat by omega]; exact hon3.2.1
    replace hF := hF.to (rdb_e (z := z4) ez4)
    replace hF := hF.fc ⟨bz4.1, by4⟩
    obtain ⟨z5, ez5, bz5⟩ := hI.rd 1 ((x1 + 16).toNat) (x := 0) (y := 9) (rgN_20 (Or.inl rfl) (by omega))
    have by5 : z5 ≤ 8 := by rw [← ez5, show (x1 + 16).toNat = 16 + x1.toNat by omega]; exact hon3.2.2
    replace hF := hF.to (rdb_e (z := z5) ez5)
    replace hF := hF.fc ⟨bz5.1, by5⟩
    refine x_iload_n C.1 dX12_canGo_8 2 rfl ?_
    refine x_iconst C.1 (n := 1) dX12_canGo_9 ?_
    refine x_bipush C.1 (n := 9) dX12_canGo_10 ?_
    refine x_callSi C (As := [vI x2, vI 1, vI 9]) (rest := []) (m_in l D cy x2 ⟨by omega, by omega⟩ 1 ⟨by decide, by decide⟩ 9 ⟨by decide, by decide⟩) (l1 := []) (l2 := _) rfl (w2 := fun _ => _) (fun _ => rfl) rfl wm_yX12_in wn_X12 wl_X12_126 wi_yX12_in hd_yX12_in rfl ⟨Nat.le_of_ble_eq_true rfl, Nat.le_of_ble_eq_true rfl⟩ (Nat.le_of_ble_eq_true rfl) ⟨Nat.le_of_ble_eq_true rfl, Nat.le_of_ble_eq_true rfl⟩ dX12_canGo_12 (fun z6 u6 bz6 h6 => ?_)
    obtain ⟨bq6, hx6_0, hFc6⟩ := h6
    replace hF := calR_i hF hFc6
    replace hF := hF.fc bq6
    refine x_if_eq C.1 (tgt := 45) dX12_canGo_15 (by decide) (by omega) (fun hc7 => ?_) (fun hc7 => ?_)
    · replace hF := hF.to (if_pos hc7)
      refine x_iconst C.1 (n := 0) dX12_canGo_45 ?_
      exact x_zret (S := (Nat → Nat → Int)) (post := (fun a (u : Nat → Nat → Int) => MI G u ∧ (0 ≤ a ∧ a ≤ 1) ∧ (Sp a ((0 ≤ x1 ∧ x1 ≤ 3) ∧ (1 ≤ x2 ∧ x2 ≤ 9) ∧ (1 ≤ x3 ∧ x3 ≤ 3) ∧ x2 * (x3 + 1) ≤ 18)) ∧ FBm 58028439341502226155700224 V u ∧ (f_m_canGo x1 x2 x3 V J Rr) (a, u))) (w1 := (fun u : Nat → Nat → Int => MW cy ad u J Rr)) (a := 0) C hr rfl dX12_canGo_46 (by decide) V rfl ⟨hI, ⟨by decide, by decide⟩, (Or.inl rfl), hB, hF _ rfl⟩
    · replace hF := hF.to (if_neg hc7)
      have hon8 := Sq.on hx6_0 (by omega)
      refine x_iload_n C.1 dX12_canGo_18 3 rfl ?_
      refine x_iconst C.1 (n := 1) dX12_canGo_19 ?_
      refine x_iconst C.1 (n := 3) dX12_canGo_20 ?_
      refine x_callSi C (As := [vI x3, vI 1, vI 3]) (rest := []) (m_in l D cy x3 ⟨by omega, by omega⟩ 1 ⟨by decide, by decide⟩ 3 ⟨by decide, by decide⟩) (l1 := []) (l2 := _) rfl (w2 := fun _ => _) (fun _ => rfl) rfl wm_yX12_in wn_X12 wl_X12_126 wi_yX12_in hd_yX12_in rfl ⟨Nat.le_of_ble_eq_true rfl, Nat.le_of_ble_eq_true rfl⟩ (Nat.le_of_ble_eq_true rfl) ⟨Nat.le_of_ble_eq_true rfl, Nat.le_of_ble_eq_true rfl⟩ dX12_canGo_21 (fun z9 u9 bz9 h9 => ?_)
      obtain ⟨bq9, hx9_0, hFc9⟩ := h9
      replace hF := calR_i hF hFc9
      replace hF := hF.fc bq9
      refine x_if_eq C.1 (tgt := 45) dX12_canGo_24 (by decide) (by omega) (fun hc10 => ?_) (fun hc10 => ?_)
      · replace hF := hF.to (if_pos hc10)
        refine x_iconst C.1 (n := 0) dX12_canGo_45 ?_
        exact x_zret (S := (Nat → Nat → Int)) (post := (fun a (u : Nat → Nat → Int) => MI G u ∧ (0 ≤ a ∧ a ≤ 1) ∧ (Sp a ((0 ≤ x1 ∧ x1 ≤ 3) ∧ (1 ≤ x2 ∧ x2 ≤ 9) ∧ (1 ≤ x3 ∧ x3 ≤ 3) ∧ x2 * (x3 + 1) ≤ 18)) ∧ FBm 58028439341502226155700224 V u ∧ (f_m_canGo x1 x2 x3 V J Rr) (a, u))) (w1 := (fun u : Nat → Nat → Int => MW cy ad u J Rr)) (a := 0) C hr rfl dX12_canGo_46 (by decide) V rfl ⟨hI, ⟨by decide, by decide⟩, (Or.inl rfl), hB, hF _ rfl⟩
      · replace hF := hF.to (if_neg hc10)
        have hon11 := Sq.on hx9_0 (by omega)
        refine x_iload_n C.1 dX12_canGo_27 2 rfl ?_
        refine x_iload_n C.1 dX12_canGo_28 3 rfl ?_
        refine x_iconst C.1 (n := 1) dX12_canGo_29 ?_
        refine x_iadd C.1 (v := x3 + 1) (by omega) dX12_canGo_30 ?_
        obtain ⟨z12, hz12, bz12⟩ := mulB (x := x2) (y := x3 + 1) (A := 9) (B := 4) (by omega) (by omega)
        replace hF := hF.to (rdb_e (z := z12) hz12)
        replace hF := hF.fc bz12
        refine x_imul C.1 (v := z12) hz12 dX12_canGo_31 ?_
        refine x_bipush C.1 (n := 18) dX12_canGo_32 ?_
        refine x_icmp_gt C.1 (tgt := 45) dX12_canGo_34 (by decide) (by omega) (by decide) (fun hc13 => ?_) (fun hc13 => ?_)
        · replace hF := hF.to (if_pos hc13)
          refine x_iconst C.1 (n := 0) dX12_canGo_45 ?_
          exact x_zret (S := (Nat → Nat → Int)) (post := (fun a (u : Nat → Nat → Int) => MI G u ∧ (0 ≤ a ∧ a ≤ 1) ∧ (Sp a ((0 ≤ x1 ∧ x1 ≤ 3) ∧ (1 ≤ x2 ∧ x2 ≤ 9) ∧ (1 ≤ x3 ∧ x3 ≤ 3) ∧ x2 * (x3 + 1) ≤ 18)) ∧ FBm 58028439341502226155700224 V u ∧ (f_m_canGo x1 x2 x3 V J Rr) (a, u))) (w1 := (fun u : Nat → Nat → Int => MW cy ad u J Rr)) (a := 0) C hr rfl dX12_canGo_46 (by decide) V rfl ⟨hI, ⟨by decide, by decide⟩, (Or.inl rfl), hB, hF _ rfl⟩
        · replace hF := hF.to (if_neg hc13)
          refine x_aload_n C.1 dX12_canGo_37 0 rfl ?_
          refine x_iload_n C.1 dX12_canGo_38 3 rfl ?_
          refine x_callVi C (As := [vI x3]) (rest := []) 0 (xw_at (N := 33) (i := 0) (by decide) rfl) vc_X12 (m_laysSome l D cy ad G V J Rr hI hJ hR x3 ⟨by omega, by omega⟩) (l1 := []) (l2 := []) (List.append_nil _).symm (w2 := fun u : Nat → Nat → Int => MW cy ad u J Rr) (fun _ => List.append_nil _) rfl wm_yX12_laysSome wn_X12 wl_X12_339 wi_yX12_laysSome we_yX12_laysSome hd_yX12_laysSome rfl ⟨Nat.le_of_ble_eq_true rfl, Nat.le_of_ble_eq_true rfl⟩ (Nat.le_of_ble_eq_true rfl) ⟨Nat.le_of_ble_eq_true rfl, Nat.le_of_ble_eq_true rfl⟩ dX12_canGo_39 (fun z14 V14 bz14 h14 => ?_)
          obtain ⟨hI14, bq14, hBc14, hFc14⟩ := h14
          replace hF := calVM_i hF hFc14 hBc14
          replace hF := hF.fc bq14
          have hB14 := hB.tr hBc14 (m := 58028439341502200385896448) rfl
          refine x_if_ne C.1 (tgt := 47) dX12_canGo_42 (by decide) (by omega) (fun hc15 => ?_) (fun hc15 => ?_)
          · replace hF := hF.to (if_pos hc15)
            refine x_aload_n C.1 dX12_canGo_47 0 rfl ?_
            refine x_iload_n C.1 dX12_canGo_48 1 rfl ?_
            refine x_putI C (N := 33) (i := 0) (by decide) rfl vc_X12 wx_X12 33 (by decide) wf_X12_298 tyX12 tyX12_ok nmX12 rfl (tyX12_ok 33 (by decide)) rfl dX12_canGo_49 rfl rfl ?_
            refine x_gV ?_
            intro V16 hV16
            have hI16 : MI G V16 := hI14.up hV16 rfl (by omega) rfl (Or.inl (by decide))
            have hB16 := hB14.up hV16 rfl
            replace hF := hF.to (rdb_e (z := V16) hV16.symm)
            refine x_aload_n C.1 dX12_canGo_52 0 rfl ?_
            refine x_aload_n C.1 dX12_canGo_53 0 rfl ?_
            refine x_getA C (N := 33) (i := 0) (by decide) rfl vc_X12 wx_X12 0 (by decide) wf_X12_7 (a := 1) rfl dX12_canGo_54 ?_
            refine x_iconst C.1 (n := 4) dX12_canGo_57 ?_
            refine x_iload_n C.1 dX12_canGo_58 1 rfl ?_
            refine x_iadd C.1 (v := x1 + 4) (by omega) dX12_canGo_59 ?_
            obtain ⟨z17, ez17, bz17⟩ := hI16.rd 1 ((x1 + 4).toNat) (x := 0) (y := 24) (rgN_8 (Or.inl rfl) (by omega))
            replace hF := hF.to (rdb_e (z := z17) ez17)
            replace hF := hF.fc bz17
            refine x_iald C (N := 33) (i := 1) (q := x1 + 4) (by decide) rfl (by omega) (by decide) dX12_canGo_60 (a := z17) ez17 ?_
            refine x_putI C (N := 33) (i := 0) (by decide) rfl vc_X12 wx_X12 34 (by decide) wf_X12_301 tyX12 tyX12_ok nmX12 rfl (tyX12_ok 34 (by decide)) rfl dX12_canGo_61 rfl rfl ?_
            refine x_gV ?_
            intro V18 hV18
            have hI18 : MI G V18 := hI16.up hV18 rfl (by omega) rfl (Or.inl (by decide))
            have hB18 := hB16.up hV18 rfl
            replace hF := hF.to (rdb_e (z := V18) hV18.symm)
            refine x_iconst C.1 (n := 1) dX12_canGo_64 ?_
            exact x_zret (S := (Nat → Nat → Int)) (post := (fun a (u : Nat → Nat → Int) => MI G u ∧ (0 ≤ a ∧ a ≤ 1) ∧ (Sp a ((0 ≤ x1 ∧ x1 ≤ 3) ∧ (1 ≤ x2 ∧ x2 ≤ 9) ∧ (1 ≤ x3 ∧ x3 ≤ 3) ∧ x2 * (x3 + 1) ≤ 18)) ∧ FBm 58028439341502226155700224 V u ∧ (f_m_canGo x1 x2 x3 V J Rr) (a, u))) (w1 := (fun u : Nat → Nat → Int => MW cy ad u J Rr)) (a := 1) C hr rfl dX12_canGo_65 (by decide) V18 rfl ⟨hI18, ⟨by decide, by decide⟩, (Or.inr ⟨rfl, ⟨by omega, by omega⟩, ⟨by omega, by omega⟩, ⟨by omega, by omega⟩, by omega⟩), hB18, hF _ rfl⟩
          · replace hF := hF.to (if_neg (fun hh => hh hc15))
            refine x_iconst C.1 (n := 0) dX12_canGo_45 ?_
            exact x_zret (S := (Nat → Nat → Int)) (post := (fun a (u : Nat → Nat → Int) => MI G u ∧ (0 ≤ a ∧ a ≤ 1) ∧ (Sp a ((0 ≤ x1 ∧ x1 ≤ 3) ∧ (1 ≤ x2 ∧ x2 ≤ 9) ∧ (1 ≤ x3 ∧ x3 ≤ 3) ∧ x2 * (x3 + 1) ≤ 18)) ∧ FBm 58028439341502226155700224 V u ∧ (f_m_canGo x1 x2 x3 V J Rr) (a, u))) (w1 := (fun u : Nat → Nat → Int => MW cy ad u J Rr)) (a := 0) C hr rfl dX12_canGo_46 (by decide) V14 rfl ⟨hI14, ⟨by decide, by decide⟩, (Or.inl rfl), hB14, hF _ rfl⟩
theorem dX12_leastBy_0 : decode cX12_leastBy 0 = .ok (.bipush 60, 2) := by decide +kernel
theorem dX12_leastBy_2 : decode cX12_leastBy 2 = .ok (.istore_n 1, 1) := by decide +kernel
theorem dX12_leastBy_3 : decode cX12_leastBy 3 = .ok (.iconst 0, 1) := by decide +kernel
theorem dX12_leastBy_4 : decode cX12_leastBy 4 = .ok (.istore_n 2, 1) := by decide +kernel
theorem dX12_leastBy_5 : decode cX12_leastBy 5 = .ok (.iload_n 2, 1) := by decide +kernel
theorem dX12_leastBy_6 : decode cX12_leastBy 6 = .ok (.iconst 4, 1) := by decide +kernel
theorem dX12_leastBy_7 : decode cX12_leastBy 7 = .ok (.if_icmp .ge 38, 3) := by decide +kernel
theorem dX12_leastBy_10 : decode cX12_leastBy 10 = .ok (.aload_n 0, 1) := by decide +kernel
theorem dX12_leastBy_11 : decode cX12_leastBy 11 = .ok (.iload_n 2, 1) := by decide +kernel
theorem dX12_leastBy_12 : decode cX12_leastBy 12 = .ok (.invokevirtual 130, 3) := by decide +kernel
theorem dX12_leastBy_15 : decode cX12_leastBy 15 = .ok (.ifCond .eq 24, 3) := by decide +kernel
theorem dX12_leastBy_18 : decode cX12_leastBy 18 = .ok (.iload_n 1, 1) := by decide +kernel
theorem dX12_leastBy_19 : decode cX12_leastBy 19 = .ok (.aload_n 0, 1) := by decide +kernel
theorem dX12_leastBy_20 : decode cX12_leastBy 20 = .ok (.getfield 87, 3) := by decide +kernel
theorem dX12_leastBy_23 : decode cX12_leastBy 23 = .ok (.bipush 25, 2) := by decide +kernel
theorem dX12_leastBy_25 : decode cX12_leastBy 25 = .ok (.iload_n 2, 1) := by decide +kernel
theorem dX12_leastBy_26 : decode cX12_leastBy 26 = .ok (.imul, 1) := by decide +kernel
theorem dX12_leastBy_27 : decode cX12_leastBy 27 = .ok (.aload_n 0, 1) := by decide +kernel
theorem dX12_leastBy_28 : decode cX12_leastBy 28 = .ok (.getfield 90, 3) := by decide +kernel
theorem dX12_leastBy_31 : decode cX12_leastBy 31 = .ok (.iload_n 2, 1) := by decide +kernel
theorem dX12_leastBy_32 : decode cX12_leastBy 32 = .ok (.iaload, 1) := by decide +kernel
theorem dX12_leastBy_33 : decode cX12_leastBy 33 = .ok (.iadd, 1) := by decide +kernel
theorem dX12_leastBy_34 : decode cX12_leastBy 34 = .ok (.iaload, 1) := by decide +kernel
theorem dX12_leastBy_35 : decode cX12_leastBy 35 = .ok (.invokestatic 133, 3) := by decide +kernel
theorem dX12_leastBy_38 : decode cX12_leastBy 38 = .ok (.istore_n 1, 1) := by decide +kernel
theorem dX12_leastBy_39 : decode cX12_leastBy 39 = .ok (.iinc 2 1, 3) := by decide +kernel
theorem dX12_leastBy_42 : decode cX12_leastBy 42 = .ok (.goto (-37), 3) := by decide +kernel
theorem dX12_leastBy_45 : decode cX12_leastBy 45 = .ok (.iload_n 1, 1) := by decide +kernel
theorem dX12_leastBy_46 : decode cX12_leastBy 46 = .ok (.ireturn, 1) := by decide +kernel
set_option maxRecDepth 100000 in
def f_m_leastBy (V : Nat → Nat → Int) (J : Nat → Nat → Int) (Rr : Nat → Nat → Nat) : (Int) → Prop :=
  lop2 (6) (fun rc123 (z121 : Int) (z122 : Int) => (if 4 ≤ z121 then rtn z122 else calR (f_m_lives z121 V J Rr) fun z144 => fct (0 ≤ z144 ∧ z144 ≤ 1) <| jnk (fun (z152 : Int) => rc123 (z121 + 1) z152) fun jf153 => (if z144 = 0 then jf153 z122 else rdb (V 1 ((z121 + 12).toNat)) fun z156 => fct (0 ≤ z156 ∧ z156 ≤ 8) <| rdb (V 1 ((z121 + 16).toNat)) fun z157 => fct (0 ≤ z157 ∧ z157 ≤ 8) <| rdb (V 27 z121.toNat) fun z158 => fct (0 ≤ z158 ∧ z158 ≤ 24) <| rdb (V 26 ((25 * z121 + z158).toNat)) fun z159 => calR (f_m_min z122 z159) fun z160 => jf153 z160))) 0 60
set_option maxHeartbeats 8000000 in
set_option maxRecDepth 100000 in
theorem m_leastBy (l : Launch) (D : va_G) (cy : Nat → ClassId) (ad : Nat → Nat) (G : Nat → Nat → Int) (V J : Nat → Nat → Int) (Rr : Nat → Nat → Nat) (hI : MI G V) (hJ : VJ J) (hR : MR Rr)  : xMi l D (xTY cy) yX12_leastBy cX12_leastBy 3 (some .int) 3 63 0 0 [.ref (ad 0)] (MW cy ad V J Rr) (fun _ : Unit => MW cy ad V J Rr) (fun a (u : Unit) => (f_m_leastBy V J Rr) a) := by
  refine xMi.mk (lv0 := [(0, .ref (ad 0))]) (by decide) rfl (Nat.le_of_ble_eq_true rfl) (fun p e s m below meth c A C hr hnm hAe => ?_)
  have C : xC2 p s m _ meth c D A s.heap 3 cX12_leastBy RX12 (xTY cy) := C
  have hF := Imp.of_eq (f_m_leastBy.eq_def V J Rr)
  refine x_bipush C.1 (n := 60) dX12_leastBy_0 ?_
  refine x_istore_n C.1 (lv' := [(1, vI 60), (0, .ref (ad 0))]) dX12_leastBy_2 (by decide) rfl ?_
  refine x_iconst C.1 (n := 0) dX12_leastBy_3 ?_
  refine x_istore_n C.1 (lv' := [(2, vI 0), (1, vI 60), (0, .ref (ad 0))]) dX12_leastBy_4 (by decide) rfl ?_
  obtain ⟨bd123, hbd123, hF⟩ := lop2_ex hF
  refine x_loop (I := fun x : Int × Int => match x with | (z121, z122) => (0 ≤ z121 ∧ z121 ≤ 4) ∧ (-2147483648 ≤ z122 ∧ z122 ≤ 60) ∧ (∃ nf : Nat, (5 - z121).toNat < nf ∧ Imp (lop2 nf bd123 z121 z122) (f_m_leastBy V J Rr))) (μ := fun x : Int × Int => match x with | (z121, z122) => (5 - z121).toNat) (wsf := fun x : Int × Int => match x with | (z121, z122) => MW cy ad V J Rr) (lvf := fun x : Int × Int => match x with | (z121, z122) => [(2, vI z121), (1, vI z122), (0, .ref (ad 0))]) (fun x hI123x ih123 => ?_) (0, 60) ⟨⟨by decide, by decide⟩, ⟨by decide, by decide⟩, ⟨_, (by omega), hF⟩⟩ rfl rfl
  obtain ⟨z121, z122⟩ := x
  obtain ⟨bz121, bz122, nf123, hn123, hF⟩ := hI123x
  try dsimp only
  obtain ⟨nf123, rfl⟩ : ∃ mm, nf123 = mm + 1 := ⟨nf123 - 1, (Nat.succ_pred_eq_of_pos (Nat.lt_of_le_of_lt (Nat.zero_le _) hn123)).symm⟩
  replace hF := hF.to (lop2_s hbd123)
  refine x_iload_n C.1 dX12_leastBy_5 0 rfl ?_
  refine x_iconst C.1 (n := 4) dX12_leastBy_6 ?_
  refine x_icmp_ge C.1 (tgt := 45) dX12_leastBy_7 (by decide) (by omega) (by decide) (fun hc143 => ?_) (fun hc143 => ?_)
  · replace hF := hF.to (if_pos hc143)
    refine x_iload_n C.1 dX12_leastBy_45 1 rfl ?_
    exact x_iret (S := Unit) (post := (fun a (u : Unit) => (f_m_leastBy V J Rr) a)) (w1 := (fun _ : Unit => MW cy ad V J Rr)) (a := z122) C hr rfl dX12_leastBy_46 (by omega) () rfl (hF _ rfl)
  · replace hF := hF.to (if_neg hc143)
    refine x_aload_n C.1 dX12_leastBy_10 2 rfl ?_
    refine x_iload_n C.1 dX12_leastBy_11 0 rfl ?_
    refine x_callVi C (As := [vI z121]) (rest := []) 0 (xw_at (N := 33) (i := 0) (by decide) rfl) vc_X12 (m_lives l D cy ad G V J Rr hI hJ hR z121 ⟨by omega, by omega⟩) (l1 := []) (l2 := []) (List.append_nil _).symm (w2 := fun _ => MW cy ad V J Rr) (fun _ => List.append_nil _) rfl wm_yX12_lives wn_X12 wl_X12_130 wi_yX12_lives we_yX12_lives hd_yX12_lives rfl ⟨Nat.le_of_ble_eq_true rfl, Nat.le_of_ble_eq_true rfl⟩ (Nat.le_of_ble_eq_true rfl) ⟨Nat.le_of_ble_eq_true rfl, Nat.le_of_ble_eq_true rfl⟩ dX12_leastBy_12 (fun z144 u144 bz144 h144 => ?_)
    obtain ⟨bq144, hx144_0, hFc144⟩ := h144
    replace hF := calR_i hF hFc144
    replace hF := hF.fc bq144
    obtain ⟨jf153, hjf153, hF⟩ := jn_ex hF
    refine x_join (I := fun z152 : Int => (-2147483648 ≤ z152 ∧ z152 ≤ 60) ∧ Imp (jf153 z152) (f_m_leastBy V J Rr)) (wsf := fun z152 : Int => MW cy ad V J Rr) (lvf := fun z152 : Int => [(2, vI z121), (1, vI z152), (0, .ref (ad 0))]) (stf := fun z152 : Int => []) 39 (fun z152 hI153x => ?_) (fun jn153 => ?_)
    · obtain ⟨bz152, hF⟩ := hI153x
      try dsimp only
      replace hF := hF.to (jn_s1 hjf153)
      refine x_iinc C.1 (v := z121 + 1) (lv' := [(2, vI (z121 + 1)), (1, vI z152), (0, .ref (ad 0))]) (by omega) dX12_leastBy_39 0 rfl (by decide) rfl ?_
      refine x_goto C.1 (tgt := 5) dX12_leastBy_42 (by decide) ?_
      have hmu123 : (5 - (z121 + 1)).toNat < (5 - z121).toNat := (by omega)
      exact ih123 (z121 + 1, z152) ⟨⟨by omega, by omega⟩, ⟨by omega, by omega⟩, ⟨nf123, Nat.lt_of_lt_of_le hmu123 (Nat.le_of_lt_succ hn123), hF⟩⟩ hmu123
    · refine x_if_eq C.1 (tgt := 39) dX12_leastBy_15 (by decide) (by omega) (fun hc154 => ?_) (fun hc154 => ?_)
      · replace hF := hF.to (if_pos hc154)
        exact jn153 z122 ⟨⟨by omega, by omega⟩, hF⟩
      · replace hF := hF.to (if_neg hc154)
        have hon155 := Sp.on hx144_0 (by omega)
        obtain ⟨z156, ez156, bz156⟩ := hI.rd 1 ((z121 + 12).toNat) (x := 0) (y := 9) (rgN_20 (Or.inl rfl) (by omega))
        have by156 : z156 ≤ 8 := by rw [← ez156, show (z121 + 12).toNat = 12 + z121.toNat by omega]; exact hon155.2.1
        replace hF := hF.to (rdb_e (z := z156) ez156)
        replace hF := hF.fc ⟨bz156.1, by156⟩
        obtain ⟨z157, ez157, bz157⟩ := hI.rd 1 ((z121 + 16).toNat) (x := 0) (y := 9) (rgN_20 (Or.inl rfl) (by omega))
        have by157 : z157 ≤ 8 := by rw [← ez157, show (z121 + 16).toNat = 16 + z121.toNat by omega]; exact hon155.2.2
        replace hF := hF.to (rdb_e (z := z157) ez157)
        replace hF := hF.fc ⟨bz157.1, by157⟩
        refine x_iload_n C.1 dX12_leastBy_18 1 rfl ?_
        refine x_aload_n C.1 dX12_leastBy_19 2 rfl ?_
        refine x_getA C (N := 33) (i := 0) (by decide) rfl vc_X12 wx_X12 42 (by decide) wf_X12_87 (a := 26) rfl dX12_leastBy_20 ?_
        refine x_bipush C.1 (n := 25) dX12_leastBy_23 ?_
        refine x_iload_n C.1 dX12_leastBy_25 0 rfl ?_
        refine x_imul C.1 (v := 25 * z121) (by omega) dX12_leastBy_26 ?_
        refine x_aload_n C.1 dX12_leastBy_27 2 rfl ?_
        refine x_getA C (N := 33) (i := 0) (by decide) rfl vc_X12 wx_X12 43 (by decide) wf_X12_90 (a := 27) rfl dX12_leastBy_28 ?_
        refine x_iload_n C.1 dX12_leastBy_31 0 rfl ?_
        obtain ⟨z158, ez158, bz158⟩ := hI.rd 27 z121.toNat (x := 0) (y := 24) rfl
        replace hF := hF.to (rdb_e (z := z158) ez158)
        replace hF := hF.fc bz158
        refine x_iald C (N := 33) (i := 27) (q := z121) (by decide) rfl (by omega) (by decide) dX12_leastBy_32 (a := z158) ez158 ?_
        refine x_iadd C.1 (v := 25 * z121 + z158) (by omega) dX12_leastBy_33 ?_
        obtain ⟨z159, ez159, bz159⟩ := hI.rd 26 ((25 * z121 + z158).toNat) (x := -2147483648) (y := 2147483647) rfl
        replace hF := hF.to (rdb_e (z := z159) ez159)
        refine x_iald C (N := 33) (i := 26) (q := 25 * z121 + z158) (by decide) rfl (by omega) (by decide) dX12_leastBy_34 (a := z159) ez159 ?_
        refine x_callSi C (As := [vI z122, vI z159]) (rest := []) (m_min l D cy z122 ⟨by omega, by omega⟩ z159 ⟨by omega, by omega⟩) (l1 := []) (l2 := _) rfl (w2 := fun _ => _) (fun _ => rfl) rfl wm_yX12_min wn_X12 wl_X12_133 wi_yX12_min hd_yX12_min rfl ⟨Nat.le_of_ble_eq_true rfl, Nat.le_of_ble_eq_true rfl⟩ (Nat.le_of_ble_eq_true rfl) ⟨Nat.le_of_ble_eq_true rfl, Nat.le_of_ble_eq_true rfl⟩ dX12_leastBy_35 (fun z160 u160 bz160 h160 => ?_)
        obtain ⟨hx160_0, hFc160⟩ := h160
        replace hF := calR_i hF hFc160
        have bm161 : -2147483648 ≤ z160 ∧ z160 ≤ 60 := by omega
        skip
        refine x_istore_n C.1 (lv' := [(1, vI z160), (2, vI z121), (0, .ref (ad 0))]) dX12_leastBy_38 (by decide) rfl ?_
        refine x_lv [(2, vI z121), (1, vI z160), (0, .ref (ad 0))] [1, 0, 2] rfl ?_
        exact jn153 z160 ⟨⟨by omega, by omega⟩, hF⟩
theorem dX12_mayBe_0 : decode cX12_mayBe 0 = .ok (.iconst 0, 1) := by decide +kernel
theorem dX12_mayBe_1 : decode cX12_mayBe 1 = .ok (.istore_n 2, 1) := by decide +kernel
theorem dX12_mayBe_2 : decode cX12_mayBe 2 = .ok (.iconst 0, 1) := by decide +kernel
theorem dX12_mayBe_3 : decode cX12_mayBe 3 = .ok (.istore_n 3, 1) := by decide +kernel
theorem dX12_mayBe_4 : decode cX12_mayBe 4 = .ok (.iload_n 3, 1) := by decide +kernel
theorem dX12_mayBe_5 : decode cX12_mayBe 5 = .ok (.iconst 4, 1) := by decide +kernel
theorem dX12_mayBe_6 : decode cX12_mayBe 6 = .ok (.if_icmp .ge 37, 3) := by decide +kernel
theorem dX12_mayBe_9 : decode cX12_mayBe 9 = .ok (.aload_n 0, 1) := by decide +kernel
theorem dX12_mayBe_10 : decode cX12_mayBe 10 = .ok (.iload_n 3, 1) := by decide +kernel
theorem dX12_mayBe_11 : decode cX12_mayBe 11 = .ok (.invokevirtual 130, 3) := by decide +kernel
theorem dX12_mayBe_14 : decode cX12_mayBe 14 = .ok (.ifCond .ne 14, 3) := by decide +kernel
theorem dX12_mayBe_17 : decode cX12_mayBe 17 = .ok (.aload_n 0, 1) := by decide +kernel
theorem dX12_mayBe_18 : decode cX12_mayBe 18 = .ok (.getfield 90, 3) := by decide +kernel
theorem dX12_mayBe_21 : decode cX12_mayBe 21 = .ok (.iload_n 3, 1) := by decide +kernel
theorem dX12_mayBe_22 : decode cX12_mayBe 22 = .ok (.iaload, 1) := by decide +kernel
theorem dX12_mayBe_23 : decode cX12_mayBe 23 = .ok (.ifCond .le 5, 3) := by decide +kernel
theorem dX12_mayBe_26 : decode cX12_mayBe 26 = .ok (.iconst 0, 1) := by decide +kernel
theorem dX12_mayBe_27 : decode cX12_mayBe 27 = .ok (.ireturn, 1) := by decide +kernel
theorem dX12_mayBe_28 : decode cX12_mayBe 28 = .ok (.iload_n 2, 1) := by decide +kernel
theorem dX12_mayBe_29 : decode cX12_mayBe 29 = .ok (.aload_n 0, 1) := by decide +kernel
theorem dX12_mayBe_30 : decode cX12_mayBe 30 = .ok (.getfield 90, 3) := by decide +kernel
theorem dX12_mayBe_33 : decode cX12_mayBe 33 = .ok (.iload_n 3, 1) := by decide +kernel
theorem dX12_mayBe_34 : decode cX12_mayBe 34 = .ok (.iaload, 1) := by decide +kernel
theorem dX12_mayBe_35 : decode cX12_mayBe 35 = .ok (.iadd, 1) := by decide +kernel
theorem dX12_mayBe_36 : decode cX12_mayBe 36 = .ok (.istore_n 2, 1) := by decide +kernel
theorem dX12_mayBe_37 : decode cX12_mayBe 37 = .ok (.iinc 3 1, 3) := by decide +kernel
theorem dX12_mayBe_40 : decode cX12_mayBe 40 = .ok (.goto (-36), 3) := by decide +kernel
theorem dX12_mayBe_43 : decode cX12_mayBe 43 = .ok (.iload_n 2, 1) := by decide +kernel
theorem dX12_mayBe_44 : decode cX12_mayBe 44 = .ok (.iload_n 1, 1) := by decide +kernel
theorem dX12_mayBe_45 : decode cX12_mayBe 45 = .ok (.if_icmp .ne 7, 3) := by decide +kernel
theorem dX12_mayBe_48 : decode cX12_mayBe 48 = .ok (.iconst 1, 1) := by decide +kernel
theorem dX12_mayBe_49 : decode cX12_mayBe 49 = .ok (.goto 4, 3) := by decide +kernel
theorem dX12_mayBe_52 : decode cX12_mayBe 52 = .ok (.iconst 0, 1) := by decide +kernel
theorem dX12_mayBe_53 : decode cX12_mayBe 53 = .ok (.ireturn, 1) := by decide +kernel
set_option maxRecDepth 100000 in
def f_m_mayBe (x1 : Int) (V : Nat → Nat → Int) (J : Nat → Nat → Int) (Rr : Nat → Nat → Nat) : (Int) → Prop :=
  lop2 (6) (fun rc80 (z78 : Int) (z79 : Int) => (if 4 ≤ z78 then (if ¬ z79 = x1 then rtn 0 else rtn 1) else calR (f_m_lives z78 V J Rr) fun z94 => fct (0 ≤ z94 ∧ z94 ≤ 1) <| (if ¬ z94 = 0 then rdb (V 1 ((z78 + 12).toNat)) fun z97 => fct (0 ≤ z97 ∧ z97 ≤ 8) <| rdb (V 1 ((z78 + 16).toNat)) fun z98 => fct (0 ≤ z98 ∧ z98 ≤ 8) <| rdb (V 27 z78.toNat) fun z99 => fct (0 ≤ z99 ∧ z99 ≤ 24) <| rdb (wr (z79 + z99)) fun z100 => rc80 (z78 + 1) z100 else rdb (V 27 z78.toNat) fun z101 => fct (0 ≤ z101 ∧ z101 ≤ 24) <| (if z101 ≤ 0 then rc80 (z78 + 1) (z79 + z101) else rtn 0)))) 0 0
set_option maxHeartbeats 8000000 in
set_option maxRecDepth 100000 in
theorem m_mayBe (l : Launch) (D : va_G) (cy : Nat → ClassId) (ad : Nat → Nat) (G : Nat → Nat → Int) (V J : Nat → Nat → Int) (Rr : Nat → Nat → Nat) (hI : MI G V) (hJ : VJ J) (hR : MR Rr) (x1 : Int) (bx1 : -2147483648 ≤ x1 ∧ x1 ≤ 2147483647) : xMi l D (xTY cy) yX12_mayBe cX12_mayBe 4 (some .boolean) 3 63 0 0 [.ref (ad 0), vI x1] (MW cy ad V J Rr) (fun _ : Unit => MW cy ad V J Rr) (fun a (u : Unit) => (0 ≤ a ∧ a ≤ 1) ∧ (f_m_mayBe x1 V J Rr) a) := by
  refine xMi.mk (lv0 := [(0, .ref (ad 0)), (1, vI x1)]) (by decide) rfl (Nat.le_of_ble_eq_true rfl) (fun p e s m below meth c A C hr hnm hAe => ?_)
  have C : xC2 p s m _ meth c D A s.heap 4 cX12_mayBe RX12 (xTY cy) := C
  have hF := Imp.of_eq (f_m_mayBe.eq_def x1 V J Rr)
  refine x_iconst C.1 (n := 0) dX12_mayBe_0 ?_
  refine x_istore_n C.1 (lv' := [(2, vI 0), (0, .ref (ad 0)), (1, vI x1)]) dX12_mayBe_1 (by decide) rfl ?_
  refine x_iconst C.1 (n := 0) dX12_mayBe_2 ?_
  refine x_istore_n C.1 (lv' := [(3, vI 0), (2, vI 0), (0, .ref (ad 0)), (1, vI x1)]) dX12_mayBe_3 (by decide) rfl ?_
  obtain ⟨bd80, hbd80, hF⟩ := lop2_ex hF
  refine x_loop (I := fun x : Int × Int => match x with | (z78, z79) => (0 ≤ z78 ∧ z78 ≤ 4) ∧ (-2147483648 ≤ z79 ∧ z79 ≤ 2147483647) ∧ (∃ nf : Nat, (5 - z78).toNat < nf ∧ Imp (lop2 nf bd80 z78 z79) (f_m_mayBe x1 V J Rr))) (μ := fun x : Int × Int => match x with | (z78, z79) => (5 - z78).toNat) (wsf := fun x : Int × Int => match x with | (z78, z79) => MW cy ad V J Rr) (lvf := fun x : Int × Int => match x with | (z78, z79) => [(3, vI z78), (2, vI z79), (0, .ref (ad 0)), (1, vI x1)]) (fun x hI80x ih80 => ?_) (0, 0) ⟨⟨by decide, by decide⟩, ⟨by decide, by decide⟩, ⟨_, (by omega), hF⟩⟩ rfl rfl
  obtain ⟨z78, z79⟩ := x
  obtain ⟨bz78, bz79, nf80, hn80, hF⟩ := hI80x
  try dsimp only
  obtain ⟨nf80, rfl⟩ : ∃ mm, nf80 = mm + 1 := ⟨nf80 - 1, (Nat.succ_pred_eq_of_pos (Nat.lt_of_le_of_lt (Nat.zero_le _) hn80)).symm⟩
  replace hF := hF.to (lop2_s hbd80)
  refine x_iload_n C.1 dX12_mayBe_4 0 rfl ?_
  refine x_iconst C.1 (n := 4) dX12_mayBe_5 ?_
  refine x_icmp_ge C.1 (tgt := 43) dX12_mayBe_6 (by decide) (by omega) (by decide) (fun hc92 => ?_) (fun hc92 => ?_)
  · replace hF := hF.to (if_pos hc92)
    refine x_iload_n C.1 dX12_mayBe_43 1 rfl ?_
    refine x_iload_n C.1 dX12_mayBe_44 3 rfl ?_
    refine x_icmp_ne C.1 (tgt := 52) dX12_mayBe_45 (by decide) (by omega) (by omega) (fun hc93 => ?_) (fun hc93 => ?_)
    · replace hF := hF.to (if_pos hc93)
      refine x_iconst C.1 (n := 0) dX12_mayBe_52 ?_
      exact x_zret (S := Unit) (post := (fun a (u : Unit) => (0 ≤ a ∧ a ≤ 1) ∧ (f_m_mayBe x1 V J Rr) a)) (w1 := (fun _ : Unit => MW cy ad V J Rr)) (a := 0) C hr rfl dX12_mayBe_53 (by decide) () rfl ⟨⟨by decide, by decide⟩, hF _ rfl⟩
    · replace hF := hF.to (if_neg (fun hh => hh hc93))
      refine x_iconst C.1 (n := 1) dX12_mayBe_48 ?_
      refine x_goto C.1 (tgt := 53) dX12_mayBe_49 (by decide) ?_
      exact x_zret (S := Unit) (post := (fun a (u : Unit) => (0 ≤ a ∧ a ≤ 1) ∧ (f_m_mayBe x1 V J Rr) a)) (w1 := (fun _ : Unit => MW cy ad V J Rr)) (a := 1) C hr rfl dX12_mayBe_53 (by decide) () rfl ⟨⟨by decide, by decide⟩, hF _ rfl⟩
  · replace hF := hF.to (if_neg hc92)
    refine x_aload_n C.1 dX12_mayBe_9 2 rfl ?_
    refine x_iload_n C.1 dX12_mayBe_10 0 rfl ?_
    refine x_callVi C (As := [vI z78]) (rest := []) 0 (xw_at (N := 33) (i := 0) (by decide) rfl) vc_X12 (m_lives l D cy ad G V J Rr hI hJ hR z78 ⟨by omega, by omega⟩) (l1 := []) (l2 := []) (List.append_nil _).symm (w2 := fun _ => MW cy ad V J Rr) (fun _ => List.append_nil _) rfl wm_yX12_lives wn_X12 wl_X12_130 wi_yX12_lives we_yX12_lives hd_yX12_lives rfl ⟨Nat.le_of_ble_eq_true rfl, Nat.le_of_ble_eq_true rfl⟩ (Nat.le_of_ble_eq_true rfl) ⟨Nat.le_of_ble_eq_true rfl, Nat.le_of_ble_eq_true rfl⟩ dX12_mayBe_11 (fun z94 u94 bz94 h94 => ?_)
    obtain ⟨bq94, hx94_0, hFc94⟩ := h94
    replace hF := calR_i hF hFc94
    replace hF := hF.fc bq94
    refine x_if_ne C.1 (tgt := 28) dX12_mayBe_14 (by decide) (by omega) (fun hc95 => ?_) (fun hc95 => ?_)
    · replace hF := hF.to (if_pos hc95)
      have hon96 := Sp.on hx94_0 (by omega)
      obtain ⟨z97, ez97, bz97⟩ := hI.rd 1 ((z78 + 12).toNat) (x := 0) (y := 9) (rgN_20 (Or.inl rfl) (by omega))
      have by97 : z97 ≤ 8 := by rw [← ez97, show (z78 + 12).toNat = 12 + z78.toNat by omega]; exact hon96.2.1
      replace hF := hF.to (rdb_e (z := z97) ez97)
      replace hF := hF.fc ⟨bz97.1, by97⟩
      obtain ⟨z98, ez98, bz98⟩ := hI.rd 1 ((z78 + 16).toNat) (x := 0) (y := 9) (rgN_20 (Or.inl rfl) (by omega))
      have by98 : z98 ≤ 8 := by rw [← ez98, show (z78 + 16).toNat = 16 + z78.toNat by omega]; exact hon96.2.2
      replace hF := hF.to (rdb_e (z := z98) ez98)
      replace hF := hF.fc ⟨bz98.1, by98⟩
      refine x_iload_n C.1 dX12_mayBe_28 1 rfl ?_
      refine x_aload_n C.1 dX12_mayBe_29 2 rfl ?_
      refine x_getA C (N := 33) (i := 0) (by decide) rfl vc_X12 wx_X12 43 (by decide) wf_X12_90 (a := 27) rfl dX12_mayBe_30 ?_
      refine x_iload_n C.1 dX12_mayBe_33 0 rfl ?_
      obtain ⟨z99, ez99, bz99⟩ := hI.rd 27 z78.toNat (x := 0) (y := 24) rfl
      replace hF := hF.to (rdb_e (z := z99) ez99)
      replace hF := hF.fc bz99
      refine x_iald C (N := 33) (i := 27) (q := z78) (by decide) rfl (by omega) (by decide) dX12_mayBe_34 (a := z99) ez99 ?_
      refine x_iadd C.1 (v := z79 + z99) (by omega) dX12_mayBe_35 ?_
      refine x_wrapg ?_
      intro z100 bz100 ew100
      replace hF := hF.to (rdb_e (z := z100) ew100.symm)
      refine x_istore_n C.1 (lv' := [(2, vI z100), (3, vI z78), (0, .ref (ad 0)), (1, vI x1)]) dX12_mayBe_36 (by decide) rfl ?_
      refine x_iinc C.1 (v := z78 + 1) (lv' := [(3, vI (z78 + 1)), (2, vI z100), (0, .ref (ad 0)), (1, vI x1)]) (by omega) dX12_mayBe_37 1 rfl (by decide) rfl ?_
      refine x_goto C.1 (tgt := 4) dX12_mayBe_40 (by decide) ?_
      have hmu80 : (5 - (z78 + 1)).toNat < (5 - z78).toNat := (by omega)
      exact ih80 (z78 + 1, z100) ⟨⟨by omega, by omega⟩, ⟨by omega, by omega⟩, ⟨nf80, Nat.lt_of_lt_of_le hmu80 (Nat.le_of_lt_succ hn80), hF⟩⟩ hmu80
    · replace hF := hF.to (if_neg (fun hh => hh hc95))
      refine x_aload_n C.1 dX12_mayBe_17 2 rfl ?_
      refine x_getA C (N := 33) (i := 0) (by decide) rfl vc_X12 wx_X12 43 (by decide) wf_X12_90 (a := 27) rfl dX12_mayBe_18 ?_
      refine x_iload_n C.1 dX12_mayBe_21 0 rfl ?_
      obtain ⟨z101, ez101, bz101⟩ := hI.rd 27 z78.toNat (x := 0) (y := 24) rfl
      replace hF := hF.to (rdb_e (z := z101) ez101)
      replace hF := hF.fc bz101
      refine x_iald C (N := 33) (i := 27) (q := z78) (by decide) rfl (by omega) (by decide) dX12_mayBe_22 (a := z101) ez101 ?_
      refine x_if_le C.1 (tgt := 28) dX12_mayBe_23 (by decide) (by omega) (fun hc102 => ?_) (fun hc102 => ?_)
      · replace hF := hF.to (if_pos hc102)
        refine x_iload_n C.1 dX12_mayBe_28 1 rfl ?_
        refine x_aload_n C.1 dX12_mayBe_29 2 rfl ?_
        refine x_getA C (N := 33) (i := 0) (by decide) rfl vc_X12 wx_X12 43 (by decide) wf_X12_90 (a := 27) rfl dX12_mayBe_30 ?_
        refine x_iload_n C.1 dX12_mayBe_33 0 rfl ?_
        refine x_iald C (N := 33) (i := 27) (q := z78) (by decide) rfl (by omega) (by decide) dX12_mayBe_34 (a := z101) ez101 ?_
        refine x_iadd C.1 (v := z79 + z101) (by omega) dX12_mayBe_35 ?_
        refine x_istore_n C.1 (lv' := [(2, vI (z79 + z101)), (3, vI z78), (0, .ref (ad 0)), (1, vI x1)]) dX12_mayBe_36 (by decide) rfl ?_
        refine x_iinc C.1 (v := z78 + 1) (lv' := [(3, vI (z78 + 1)), (2, vI (z79 + z101)), (0, .ref (ad 0)), (1, vI x1)]) (by omega) dX12_mayBe_37 1 rfl (by decide) rfl ?_
        refine x_goto C.1 (tgt := 4) dX12_mayBe_40 (by decide) ?_
        have hmu80 : (5 - (z78 + 1)).toNat < (5 - z78).toNat := (by omega)
        exact ih80 (z78 + 1, z79 + z101) ⟨⟨by omega, by omega⟩, ⟨by omega, by omega⟩, ⟨nf80, Nat.lt_of_lt_of_le hmu80 (Nat.le_of_lt_succ hn80), hF⟩⟩ hmu80
      · replace hF := hF.to (if_neg hc102)
        refine x_iconst C.1 (n := 0) dX12_mayBe_26 ?_
        exact x_zret (S := Unit) (post := (fun a (u : Unit) => (0 ≤ a ∧ a ≤ 1) ∧ (f_m_mayBe x1 V J Rr) a)) (w1 := (fun _ : Unit => MW cy ad V J Rr)) (a := 0) C hr rfl dX12_mayBe_27 (by decide) () rfl ⟨⟨by decide, by decide⟩, hF _ rfl⟩
theorem dX12_comingIn_0 : decode cX12_comingIn 0 = .ok (.iload_n 0, 1) := by decide +kernel
theorem dX12_comingIn_1 : decode cX12_comingIn 1 = .ok (.istore_n 3, 1) := by decide +kernel
theorem dX12_comingIn_2 : decode cX12_comingIn 2 = .ok (.bipush 6, 2) := by decide +kernel
theorem dX12_comingIn_4 : decode cX12_comingIn 4 = .ok (.istore 4, 2) := by decide +kernel
theorem dX12_comingIn_6 : decode cX12_comingIn 6 = .ok (.iload 4, 2) := by decide +kernel
theorem dX12_comingIn_8 : decode cX12_comingIn 8 = .ok (.iload_n 2, 1) := by decide +kernel
theorem dX12_comingIn_9 : decode cX12_comingIn 9 = .ok (.if_icmp .le 15, 3) := by decide +kernel
theorem dX12_comingIn_12 : decode cX12_comingIn 12 = .ok (.iload_n 3, 1) := by decide +kernel
theorem dX12_comingIn_13 : decode cX12_comingIn 13 = .ok (.iload_n 1, 1) := by decide +kernel
theorem dX12_comingIn_14 : decode cX12_comingIn 14 = .ok (.iconst 1, 1) := by decide +kernel
theorem dX12_comingIn_15 : decode cX12_comingIn 15 = .ok (.iadd, 1) := by decide +kernel
theorem dX12_comingIn_16 : decode cX12_comingIn 16 = .ok (.idiv, 1) := by decide +kernel
theorem dX12_comingIn_17 : decode cX12_comingIn 17 = .ok (.istore_n 3, 1) := by decide +kernel
theorem dX12_comingIn_18 : decode cX12_comingIn 18 = .ok (.iinc 4 (-1), 3) := by decide +kernel
theorem dX12_comingIn_21 : decode cX12_comingIn 21 = .ok (.goto (-15), 3) := by decide +kernel
theorem dX12_comingIn_24 : decode cX12_comingIn 24 = .ok (.iload_n 3, 1) := by decide +kernel
theorem dX12_comingIn_25 : decode cX12_comingIn 25 = .ok (.iload_n 1, 1) := by decide +kernel
theorem dX12_comingIn_26 : decode cX12_comingIn 26 = .ok (.iconst 1, 1) := by decide +kernel
theorem dX12_comingIn_27 : decode cX12_comingIn 27 = .ok (.iadd, 1) := by decide +kernel
theorem dX12_comingIn_28 : decode cX12_comingIn 28 = .ok (.irem, 1) := by decide +kernel
theorem dX12_comingIn_29 : decode cX12_comingIn 29 = .ok (.ireturn, 1) := by decide +kernel
set_option maxRecDepth 100000 in
def f_m_comingIn (x0 : Int) (x1 : Int) (x2 : Int) : (Int) → Prop :=
  lop2 (8) (fun rc31 (z29 : Int) (z30 : Int) => (if z29 ≤ x2 then rdb (iRem z30 (x1 + 1)) fun z36 => fct (0 ≤ z36 ∧ z36 ≤ 3) <| rtn z36 else rdb (iDiv z30 (x1 + 1)) fun z37 => fct (0 ≤ z37 ∧ z37 ≤ 2147483647) <| rc31 (z29 - 1) z37)) 6 x0
set_option maxHeartbeats 8000000 in
set_option maxRecDepth 100000 in
theorem m_comingIn (l : Launch) (D : va_G) (cy : Nat → ClassId) (x0 : Int) (bx0 : 0 ≤ x0 ∧ x0 ≤ 2147483647) (x1 : Int) (bx1 : 1 ≤ x1 ∧ x1 ≤ 3) (x2 : Int) (bx2 : 0 ≤ x2 ∧ x2 ≤ 6) : xMi l D (xTY cy) yX12_comingIn cX12_comingIn 5 (some .int) 0 0 0 0 [vI x0, vI x1, vI x2] [] (fun _ : Unit => []) (fun a (u : Unit) => (0 ≤ a ∧ a ≤ 3) ∧ (f_m_comingIn x0 x1 x2) a) := by
  refine xMi.mk (lv0 := [(0, vI x0), (1, vI x1), (2, vI x2)]) (by decide) rfl (Nat.le_of_ble_eq_true rfl) (fun p e s m below meth c A C hr hnm hAe => ?_)
  have C : xC2 p s m _ meth c D A s.heap 5 cX12_comingIn RX12 (xTY cy) := C
  have hF := Imp.of_eq (f_m_comingIn.eq_def x0 x1 x2)
  refine x_iload_n C.1 dX12_comingIn_0 0 rfl ?_
  refine x_istore_n C.1 (lv' := [(3, vI x0), (0, vI x0), (1, vI x1), (2, vI x2)]) dX12_comingIn_1 (by decide) rfl ?_
  refine x_bipush C.1 (n := 6) dX12_comingIn_2 ?_
  refine x_istore C.1 (lv' := [(4, vI 6), (3, vI x0), (0, vI x0), (1, vI x1), (2, vI x2)]) dX12_comingIn_4 (by decide) rfl ?_
  obtain ⟨bd31, hbd31, hF⟩ := lop2_ex hF
  refine x_loop (I := fun x : Int × Int => match x with | (z29, z30) => (0 ≤ z29 ∧ z29 ≤ 6) ∧ (0 ≤ z30 ∧ z30 ≤ 2147483647) ∧ (∃ nf : Nat, (z29 - (-1)).toNat < nf ∧ Imp (lop2 nf bd31 z29 z30) (f_m_comingIn x0 x1 x2))) (μ := fun x : Int × Int => match x with | (z29, z30) => (z29 - (-1)).toNat) (wsf := fun x : Int × Int => match x with | (z29, z30) => []) (lvf := fun x : Int × Int => match x with | (z29, z30) => [(4, vI z29), (3, vI z30), (0, vI x0), (1, vI x1), (2, vI x2)]) (fun x hI31x ih31 => ?_) (6, x0) ⟨⟨by decide, by decide⟩, ⟨by omega, by omega⟩, ⟨_, (by omega), hF⟩⟩ rfl rfl
  obtain ⟨z29, z30⟩ := x
  obtain ⟨bz29, bz30, nf31, hn31, hF⟩ := hI31x
  try dsimp only
  obtain ⟨nf31, rfl⟩ : ∃ mm, nf31 = mm + 1 := ⟨nf31 - 1, (Nat.succ_pred_eq_of_pos (Nat.lt_of_le_of_lt (Nat.zero_le _) hn31)).symm⟩
  replace hF := hF.to (lop2_s hbd31)
  refine x_iload C.1 dX12_comingIn_6 0 rfl ?_
  refine x_iload_n C.1 dX12_comingIn_8 4 rfl ?_
  refine x_icmp_le C.1 (tgt := 24) dX12_comingIn_9 (by decide) (by omega) (by omega) (fun hc35 => ?_) (fun hc35 => ?_)
  · replace hF := hF.to (if_pos hc35)
    refine x_iload_n C.1 dX12_comingIn_24 1 rfl ?_
    refine x_iload_n C.1 dX12_comingIn_25 3 rfl ?_
    refine x_iconst C.1 (n := 1) dX12_comingIn_26 ?_
    refine x_iadd C.1 (v := x1 + 1) (by omega) dX12_comingIn_27 ?_
    obtain ⟨z36, hz36, bz36⟩ : ∃ z : Int, iRem z30 (x1 + 1) = z ∧ (0 ≤ z ∧ z ≤ 3) := ⟨_, rfl, iRem_n (by omega) (by omega)⟩
    replace hF := hF.to (rdb_e (z := z36) hz36)
    replace hF := hF.fc bz36
    refine x_irem C.1 (v := z36) hz36 dX12_comingIn_28 (by omega) (by omega) ?_
    exact x_iret (S := Unit) (post := (fun a (u : Unit) => (0 ≤ a ∧ a ≤ 3) ∧ (f_m_comingIn x0 x1 x2) a)) (w1 := (fun _ : Unit => [])) (a := z36) C hr rfl dX12_comingIn_29 (by omega) () rfl ⟨⟨by omega, by omega⟩, hF _ rfl⟩
  · replace hF := hF.to (if_neg hc35)
    refine x_iload_n C.1 dX12_comingIn_12 1 rfl ?_
    refine x_iload_n C.1 dX12_comingIn_13 3 rfl ?_
    refine x_iconst C.1 (n := 1) dX12_comingIn_14 ?_
    refine x_iadd C.1 (v := x1 + 1) (by omega) dX12_comingIn_15 ?_
    obtain ⟨z37, hz37, bz37⟩ : ∃ z : Int, iDiv z30 (x1 + 1) = z ∧ (0 ≤ z ∧ z ≤ 2147483647) := ⟨_, rfl, iDiv_n (by omega) (by omega)⟩
    replace hF := hF.to (rdb_e (z := z37) hz37)
    replace hF := hF.fc bz37
    refine x_idiv C.1 (v := z37) hz37 dX12_comingIn_16 (by omega) (by omega) ?_
    refine x_istore_n C.1 (lv' := [(3, vI z37), (4, vI z29), (0, vI x0), (1, vI x1), (2, vI x2)]) dX12_comingIn_17 (by decide) rfl ?_
    refine x_iinc C.1 (v := z29 - 1) (lv' := [(4, vI (z29 - 1)), (3, vI z37), (0, vI x0), (1, vI x1), (2, vI x2)]) (by omega) dX12_comingIn_18 1 rfl (by decide) rfl ?_
    refine x_goto C.1 (tgt := 6) dX12_comingIn_21 (by decide) ?_
    have hmu31 : ((z29 - 1) - (-1)).toNat < (z29 - (-1)).toNat := (by omega)
    exact ih31 (z29 - 1, z37) ⟨⟨by omega, by omega⟩, ⟨by omega, by omega⟩, ⟨nf31, Nat.lt_of_lt_of_le hmu31 (Nat.le_of_lt_succ hn31), hF⟩⟩ hmu31
theorem hd_yX12_comingIn : yX12_comingIn.cls ≠ "java/lang/invoke/MethodHandle" ∧ yX12_comingIn.cls ≠ "java/lang/invoke/VarHandle" ∧ (parseMethodDescriptor yX12_comingIn.desc).map (fun d => d.parameters.length) = some 3 := by decide +kernel
theorem dX12_comings_0 : decode cX12_comings 0 = .ok (.iconst 0, 1) := by decide +kernel
theorem dX12_comings_1 : decode cX12_comings 1 = .ok (.istore_n 2, 1) := by decide +kernel
theorem dX12_comings_2 : decode cX12_comings 2 = .ok (.iconst 0, 1) := by decide +kernel
theorem dX12_comings_3 : decode cX12_comings 3 = .ok (.istore_n 3, 1) := by decide +kernel
theorem dX12_comings_4 : decode cX12_comings 4 = .ok (.iload_n 3, 1) := by decide +kernel
theorem dX12_comings_5 : decode cX12_comings 5 = .ok (.bipush 7, 2) := by decide +kernel
theorem dX12_comings_7 : decode cX12_comings 7 = .ok (.if_icmp .ge 27, 3) := by decide +kernel
theorem dX12_comings_10 : decode cX12_comings 10 = .ok (.iload_n 2, 1) := by decide +kernel
theorem dX12_comings_11 : decode cX12_comings 11 = .ok (.iload_n 0, 1) := by decide +kernel
theorem dX12_comings_12 : decode cX12_comings 12 = .ok (.iload_n 1, 1) := by decide +kernel
theorem dX12_comings_13 : decode cX12_comings 13 = .ok (.iload_n 3, 1) := by decide +kernel
theorem dX12_comings_14 : decode cX12_comings 14 = .ok (.invokestatic 365, 3) := by decide +kernel
theorem dX12_comings_17 : decode cX12_comings 17 = .ok (.iload_n 1, 1) := by decide +kernel
theorem dX12_comings_18 : decode cX12_comings 18 = .ok (.if_icmp .ge 7, 3) := by decide +kernel
theorem dX12_comings_21 : decode cX12_comings 21 = .ok (.iconst 1, 1) := by decide +kernel
theorem dX12_comings_22 : decode cX12_comings 22 = .ok (.goto 4, 3) := by decide +kernel
theorem dX12_comings_25 : decode cX12_comings 25 = .ok (.iconst 0, 1) := by decide +kernel
theorem dX12_comings_26 : decode cX12_comings 26 = .ok (.iadd, 1) := by decide +kernel
theorem dX12_comings_27 : decode cX12_comings 27 = .ok (.istore_n 2, 1) := by decide +kernel
theorem dX12_comings_28 : decode cX12_comings 28 = .ok (.iinc 3 1, 3) := by decide +kernel
theorem dX12_comings_31 : decode cX12_comings 31 = .ok (.goto (-27), 3) := by decide +kernel
theorem dX12_comings_34 : decode cX12_comings 34 = .ok (.iload_n 2, 1) := by decide +kernel
theorem dX12_comings_35 : decode cX12_comings 35 = .ok (.ireturn, 1) := by decide +kernel
set_option maxRecDepth 100000 in
def f_m_comings (x0 : Int) (x1 : Int) : (Int) → Prop :=
  lop2 (9) (fun rc49 (z47 : Int) (z48 : Int) => (if 7 ≤ z47 then rtn z48 else calR (f_m_comingIn x0 x1 z47) fun z57 => fct (0 ≤ z57 ∧ z57 ≤ 3) <| jnk (fun (z58 : Int) => rdb (wr (z48 + z58)) fun z60 => rc49 (z47 + 1) z60) fun jf59 => (if x1 ≤ z57 then jf59 0 else jf59 1))) 0 0
set_option maxHeartbeats 8000000 in
set_option maxRecDepth 100000 in
theorem m_comings (l : Launch) (D : va_G) (cy : Nat → ClassId) (x0 : Int) (bx0 : 0 ≤ x0 ∧ x0 ≤ 2147483647) (x1 : Int) (bx1 : 1 ≤ x1 ∧ x1 ≤ 3) : xMi l D (xTY cy) yX12_comings cX12_comings 4 (some .int) 1 24 0 0 [vI x0, vI x1] [] (fun _ : Unit => []) (fun a (u : Unit) => (f_m_comings x0 x1) a) := by
  refine xMi.mk (lv0 := [(0, vI x0), (1, vI x1)]) (by decide) rfl (Nat.le_of_ble_eq_true rfl) (fun p e s m below meth c A C hr hnm hAe => ?_)
  have C : xC2 p s m _ meth c D A s.heap 4 cX12_comings RX12 (xTY cy) := C
  have hF := Imp.of_eq (f_m_comings.eq_def x0 x1)
  refine x_iconst C.1 (n := 0) dX12_comings_0 ?_
  refine x_istore_n C.1 (lv' := [(2, vI 0), (0, vI x0), (1, vI x1)]) dX12_comings_1 (by decide) rfl ?_
  refine x_iconst C.1 (n := 0) dX12_comings_2 ?_
  refine x_istore_n C.1 (lv' := [(3, vI 0), (2, vI 0), (0, vI x0), (1, vI x1)]) dX12_comings_3 (by decide) rfl ?_
  obtain ⟨bd49, hbd49, hF⟩ := lop2_ex hF
  refine x_loop (I := fun x : Int × Int => match x with | (z47, z48) => (0 ≤ z47 ∧ z47 ≤ 7) ∧ (-2147483648 ≤ z48 ∧ z48 ≤ 2147483647) ∧ (∃ nf : Nat, (8 - z47).toNat < nf ∧ Imp (lop2 nf bd49 z47 z48) (f_m_comings x0 x1))) (μ := fun x : Int × Int => match x with | (z47, z48) => (8 - z47).toNat) (wsf := fun x : Int × Int => match x with | (z47, z48) => []) (lvf := fun x : Int × Int => match x with | (z47, z48) => [(3, vI z47), (2, vI z48), (0, vI x0), (1, vI x1)]) (fun x hI49x ih49 => ?_) (0, 0) ⟨⟨by decide, by decide⟩, ⟨by decide, by decide⟩, ⟨_, (by omega), hF⟩⟩ rfl rfl
  obtain ⟨z47, z48⟩ := x
  obtain ⟨bz47, bz48, nf49, hn49, hF⟩ := hI49x
  try dsimp only
  obtain ⟨nf49, rfl⟩ : ∃ mm, nf49 = mm + 1 := ⟨nf49 - 1, (Nat.succ_pred_eq_of_pos (Nat.lt_of_le_of_lt (Nat.zero_le _) hn49)).symm⟩
  replace hF := hF.to (lop2_s hbd49)
  refine x_iload_n C.1 dX12_comings_4 0 rfl ?_
  refine x_bipush C.1 (n := 7) dX12_comings_5 ?_
  refine x_icmp_ge C.1 (tgt := 34) dX12_comings_7 (by decide) (by omega) (by decide) (fun hc56 => ?_) (fun hc56 => ?_)
  · replace hF := hF.to (if_pos hc56)
    refine x_iload_n C.1 dX12_comings_34 1 rfl ?_
    exact x_iret (S := Unit) (post := (fun a (u : Unit) => (f_m_comings x0 x1) a)) (w1 := (fun _ : Unit => [])) (a := z48) C hr rfl dX12_comings_35 (by omega) () rfl (hF _ rfl)
  · replace hF := hF.to (if_neg hc56)
    refine x_iload_n C.1 dX12_comings_10 1 rfl ?_
    refine x_iload_n C.1 dX12_comings_11 2 rfl ?_
    refine x_iload_n C.1 dX12_comings_12 3 rfl ?_
    refine x_iload_n C.1 dX12_comings_13 0 rfl ?_
    refine x_callSi C (As := [vI x0, vI x1, vI z47]) (rest := [vI z48]) (m_comingIn l D cy x0 ⟨by omega, by omega⟩ x1 ⟨by omega, by omega⟩ z47 ⟨by omega, by omega⟩) (l1 := []) (l2 := _) rfl (w2 := fun _ => _) (fun _ => rfl) rfl wm_yX12_comingIn wn_X12 wl_X12_365 wi_yX12_comingIn hd_yX12_comingIn rfl ⟨Nat.le_of_ble_eq_true rfl, Nat.le_of_ble_eq_true rfl⟩ (Nat.le_of_ble_eq_true rfl) ⟨Nat.le_of_ble_eq_true rfl, Nat.le_of_ble_eq_true rfl⟩ dX12_comings_14 (fun z57 u57 bz57 h57 => ?_)
    obtain ⟨bq57, hFc57⟩ := h57
    replace hF := calR_i hF hFc57
    replace hF := hF.fc bq57
    refine x_iload_n C.1 dX12_comings_17 3 rfl ?_
    obtain ⟨jf59, hjf59, hF⟩ := jn_ex hF
    refine x_join (I := fun z58 : Int => (0 ≤ z58 ∧ z58 ≤ 1) ∧ Imp (jf59 z58) (f_m_comings x0 x1)) (wsf := fun z58 : Int => []) (lvf := fun z58 : Int => [(3, vI z47), (2, vI z48), (0, vI x0), (1, vI x1)]) (stf := fun z58 : Int => [vI z58, vI z48]) 26 (fun z58 hI59x => ?_) (fun jn59 => ?_)
    · obtain ⟨bz58, hF⟩ := hI59x
      try dsimp only
      replace hF := hF.to (jn_s1 hjf59)
      refine x_iadd C.1 (v := z48 + z58) (by omega) dX12_comings_26 ?_
      refine x_wrapg ?_
      intro z60 bz60 ew60
      replace hF := hF.to (rdb_e (z := z60) ew60.symm)
      refine x_istore_n C.1 (lv' := [(2, vI z60), (3, vI z47), (0, vI x0), (1, vI x1)]) dX12_comings_27 (by decide) rfl ?_
      refine x_iinc C.1 (v := z47 + 1) (lv' := [(3, vI (z47 + 1)), (2, vI z60), (0, vI x0), (1, vI x1)]) (by omega) dX12_comings_28 1 rfl (by decide) rfl ?_
      refine x_goto C.1 (tgt := 4) dX12_comings_31 (by decide) ?_
      have hmu49 : (8 - (z47 + 1)).toNat < (8 - z47).toNat := (by omega)
      exact ih49 (z47 + 1, z60) ⟨⟨by omega, by omega⟩, ⟨by omega, by omega⟩, ⟨nf49, Nat.lt_of_lt_of_le hmu49 (Nat.le_of_lt_succ hn49), hF⟩⟩ hmu49
    · refine x_icmp_ge C.1 (tgt := 25) dX12_comings_18 (by decide) (by omega) (by omega) (fun hc61 => ?_) (fun hc61 => ?_)
      · replace hF := hF.to (if_pos hc61)
        refine x_iconst C.1 (n := 0) dX12_comings_25 ?_
        exact jn59 0 ⟨⟨by decide, by decide⟩, hF⟩
      · replace hF := hF.to (if_neg hc61)
        refine x_iconst C.1 (n := 1) dX12_comings_21 ?_
        refine x_goto C.1 (tgt := 26) dX12_comings_22 (by decide) ?_
        exact jn59 1 ⟨⟨by decide, by decide⟩, hF⟩
theorem dX12_areTenths_0 : decode cX12_areTenths 0 = .ok (.iconst 0, 1) := by decide +kernel
theorem dX12_areTenths_1 : decode cX12_areTenths 1 = .ok (.istore_n 2, 1) := by decide +kernel
theorem dX12_areTenths_2 : decode cX12_areTenths 2 = .ok (.iload_n 2, 1) := by decide +kernel
theorem dX12_areTenths_3 : decode cX12_areTenths 3 = .ok (.iload_n 1, 1) := by decide +kernel
theorem dX12_areTenths_4 : decode cX12_areTenths 4 = .ok (.if_icmp .ge 26, 3) := by decide +kernel
theorem dX12_areTenths_7 : decode cX12_areTenths 7 = .ok (.aload_n 0, 1) := by decide +kernel
theorem dX12_areTenths_8 : decode cX12_areTenths 8 = .ok (.getfield 19, 3) := by decide +kernel
theorem dX12_areTenths_11 : decode cX12_areTenths 11 = .ok (.iload_n 2, 1) := by decide +kernel
theorem dX12_areTenths_12 : decode cX12_areTenths 12 = .ok (.baload, 1) := by decide +kernel
theorem dX12_areTenths_13 : decode cX12_areTenths 13 = .ok (.iconst 0, 1) := by decide +kernel
theorem dX12_areTenths_14 : decode cX12_areTenths 14 = .ok (.bipush 10, 2) := by decide +kernel
theorem dX12_areTenths_16 : decode cX12_areTenths 16 = .ok (.invokestatic 126, 3) := by decide +kernel
theorem dX12_areTenths_19 : decode cX12_areTenths 19 = .ok (.ifCond .ne 5, 3) := by decide +kernel
theorem dX12_areTenths_22 : decode cX12_areTenths 22 = .ok (.iconst 0, 1) := by decide +kernel
theorem dX12_areTenths_23 : decode cX12_areTenths 23 = .ok (.ireturn, 1) := by decide +kernel
theorem dX12_areTenths_24 : decode cX12_areTenths 24 = .ok (.iinc 2 1, 3) := by decide +kernel
theorem dX12_areTenths_27 : decode cX12_areTenths 27 = .ok (.goto (-25), 3) := by decide +kernel
theorem dX12_areTenths_30 : decode cX12_areTenths 30 = .ok (.iconst 1, 1) := by decide +kernel
theorem dX12_areTenths_31 : decode cX12_areTenths 31 = .ok (.ireturn, 1) := by decide +kernel
set_option maxRecDepth 100000 in
def f_m_areTenths (x1 : Int) (V : Nat → Nat → Int) (J : Nat → Nat → Int) (Rr : Nat → Nat → Nat) : (Int) → Prop :=
  lop1 (222) (fun rc37 (z36 : Int) => (if x1 ≤ z36 then rtn 1 else rdb (V 4 z36.toNat) fun z44 => fct (-128 ≤ z44 ∧ z44 ≤ 127) <| calR (f_m_in z44 0 10) fun z45 => fct (0 ≤ z45 ∧ z45 ≤ 1) <| (if ¬ z45 = 0 then rc37 (z36 + 1) else rtn 0))) 0
set_option maxHeartbeats 8000000 in
set_option maxRecDepth 100000 in
theorem m_areTenths (l : Launch) (D : va_G) (cy : Nat → ClassId) (ad : Nat → Nat) (G : Nat → Nat → Int) (V J : Nat → Nat → Int) (Rr : Nat → Nat → Nat) (hI : MI G V) (hJ : VJ J) (hR : MR Rr) (x1 : Int) (bx1 : -2147483648 ≤ x1 ∧ x1 ≤ 220) : xMi l D (xTY cy) yX12_areTenths cX12_areTenths 3 (some .boolean) 1 22 0 0 [.ref (ad 0), vI x1] (MW cy ad V J Rr) (fun _ : Unit => MW cy ad V J Rr) (fun a (u : Unit) => (0 ≤ a ∧ a ≤ 1) ∧ (f_m_areTenths x1 V J Rr) a) := by
  refine xMi.mk (lv0 := [(0, .ref (ad 0)), (1, vI x1)]) (by decide) rfl (Nat.le_of_ble_eq_true rfl) (fun p e s m below meth c A C hr hnm hAe => ?_)
  have C : xC2 p s m _ meth c D A s.heap 3 cX12_areTenths RX12 (xTY cy) := C
  have hF := Imp.of_eq (f_m_areTenths.eq_def x1 V J Rr)
  refine x_iconst C.1 (n := 0) dX12_areTenths_0 ?_
  refine x_istore_n C.1 (lv' := [(2, vI 0), (0, .ref (ad 0)), (1, vI x1)]) dX12_areTenths_1 (by decide) rfl ?_
  obtain ⟨bd37, hbd37, hF⟩ := lop1_ex hF
  refine x_loop (I := fun z36 : Int => (0 ≤ z36 ∧ z36 ≤ 220) ∧ (∃ nf : Nat, (221 - z36).toNat < nf ∧ Imp (lop1 nf bd37 z36) (f_m_areTenths x1 V J Rr))) (μ := fun z36 : Int => (221 - z36).toNat) (wsf := fun z36 : Int => MW cy ad V J Rr) (lvf := fun z36 : Int => [(2, vI z36), (0, .ref (ad 0)), (1, vI x1)]) (fun z36 hI37x ih37 => ?_) 0 ⟨⟨by decide, by decide⟩, ⟨_, (by omega), hF⟩⟩ rfl rfl
  obtain ⟨bz36, nf37, hn37, hF⟩ := hI37x
  try dsimp only
  obtain ⟨nf37, rfl⟩ : ∃ mm, nf37 = mm + 1 := ⟨nf37 - 1, (Nat.succ_pred_eq_of_pos (Nat.lt_of_le_of_lt (Nat.zero_le _) hn37)).symm⟩
  replace hF := hF.to (lop1_s hbd37)
  refine x_iload_n C.1 dX12_areTenths_2 0 rfl ?_
  refine x_iload_n C.1 dX12_areTenths_3 2 rfl ?_
  refine x_icmp_ge C.1 (tgt := 30) dX12_areTenths_4 (by decide) (by omega) (by omega) (fun hc43 => ?_) (fun hc43 => ?_)
  · replace hF := hF.to (if_pos hc43)
    refine x_iconst C.1 (n := 1) dX12_areTenths_30 ?_
    exact x_zret (S := Unit) (post := (fun a (u : Unit) => (0 ≤ a ∧ a ≤ 1) ∧ (f_m_areTenths x1 V J Rr) a)) (w1 := (fun _ : Unit => MW cy ad V J Rr)) (a := 1) C hr rfl dX12_areTenths_31 (by decide) () rfl ⟨⟨by decide, by decide⟩, hF _ rfl⟩
  · replace hF := hF.to (if_neg hc43)
    refine x_aload_n C.1 dX12_areTenths_7 1 rfl ?_
    refine x_getA C (N := 33) (i := 0) (by decide) rfl vc_X12 wx_X12 3 (by decide) wf_X12_19 (a := 4) rfl dX12_areTenths_8 ?_
    refine x_iload_n C.1 dX12_areTenths_11 0 rfl ?_
    obtain ⟨z44, ez44, bz44⟩ := hI.rd 4 z36.toNat (x := -128) (y := 127) rfl
    replace hF := hF.to (rdb_e (z := z44) ez44)
    replace hF := hF.fc bz44
    refine x_bald C (N := 33) (i := 4) (q := z36) (by decide) rfl (by omega) (by decide) dX12_areTenths_12 (a := z44) ez44 ?_
    refine x_iconst C.1 (n := 0) dX12_areTenths_13 ?_
    refine x_bipush C.1 (n := 10) dX12_areTenths_14 ?_
    refine x_callSi C (As := [vI z44, vI 0, vI 10]) (rest := []) (m_in l D cy z44 ⟨by omega, by omega⟩ 0 ⟨by decide, by decide⟩ 10 ⟨by decide, by decide⟩) (l1 := []) (l2 := _) rfl (w2 := fun _ => _) (fun _ => rfl) rfl wm_yX12_in wn_X12 wl_X12_126 wi_yX12_in hd_yX12_in rfl ⟨Nat.le_of_ble_eq_true rfl, Nat.le_of_ble_eq_true rfl⟩ (Nat.le_of_ble_eq_true rfl) ⟨Nat.le_of_ble_eq_true rfl, Nat.le_of_ble_eq_true rfl⟩ dX12_areTenths_16 (fun z45 u45 bz45 h45 => ?_)
    obtain ⟨bq45, hx45_0, hFc45⟩ := h45
    replace hF := calR_i hF hFc45
    replace hF := hF.fc bq45
    refine x_if_ne C.1 (tgt := 24) dX12_areTenths_19 (by decide) (by omega) (fun hc46 => ?_) (fun hc46 => ?_)
    · replace hF := hF.to (if_pos hc46)
      have hon47 := Sq.on hx45_0 (by omega)
      refine x_iinc C.1 (v := z36 + 1) (lv' := [(2, vI (z36 + 1)), (0, .ref (ad 0)), (1, vI x1)]) (by omega) dX12_areTenths_24 0 rfl (by decide) rfl ?_
      refine x_goto C.1 (tgt := 2) dX12_areTenths_27 (by decide) ?_
      have hmu37 : (221 - (z36 + 1)).toNat < (221 - z36).toNat := (by omega)
      exact ih37 (z36 + 1) ⟨⟨by omega, by omega⟩, ⟨nf37, Nat.lt_of_lt_of_le hmu37 (Nat.le_of_lt_succ hn37), hF⟩⟩ hmu37
    · replace hF := hF.to (if_neg (fun hh => hh hc46))
      refine x_iconst C.1 (n := 0) dX12_areTenths_22 ?_
      exact x_zret (S := Unit) (post := (fun a (u : Unit) => (0 ≤ a ∧ a ≤ 1) ∧ (f_m_areTenths x1 V J Rr) a)) (w1 := (fun _ : Unit => MW cy ad V J Rr)) (a := 0) C hr rfl dX12_areTenths_23 (by decide) () rfl ⟨⟨by decide, by decide⟩, hF _ rfl⟩
theorem dX12_laysComes_0 : decode cX12_laysComes 0 = .ok (.iconst 0, 1) := by decide +kernel
theorem dX12_laysComes_1 : decode cX12_laysComes 1 = .ok (.istore_n 2, 1) := by decide +kernel
theorem dX12_laysComes_2 : decode cX12_laysComes 2 = .ok (.iload_n 2, 1) := by decide +kernel
theorem dX12_laysComes_3 : decode cX12_laysComes 3 = .ok (.bipush 13, 2) := by decide +kernel
theorem dX12_laysComes_5 : decode cX12_laysComes 5 = .ok (.if_icmp .ge 24, 3) := by decide +kernel
theorem dX12_laysComes_8 : decode cX12_laysComes 8 = .ok (.aload_n 0, 1) := by decide +kernel
theorem dX12_laysComes_9 : decode cX12_laysComes 9 = .ok (.getfield 96, 3) := by decide +kernel
theorem dX12_laysComes_12 : decode cX12_laysComes 12 = .ok (.iload_n 2, 1) := by decide +kernel
theorem dX12_laysComes_13 : decode cX12_laysComes 13 = .ok (.iload_n 2, 1) := by decide +kernel
theorem dX12_laysComes_14 : decode cX12_laysComes 14 = .ok (.ifCond .ne 7, 3) := by decide +kernel
theorem dX12_laysComes_17 : decode cX12_laysComes 17 = .ok (.lconst 1, 1) := by decide +kernel
theorem dX12_laysComes_18 : decode cX12_laysComes 18 = .ok (.goto 4, 3) := by decide +kernel
theorem dX12_laysComes_21 : decode cX12_laysComes 21 = .ok (.lconst 0, 1) := by decide +kernel
theorem dX12_laysComes_22 : decode cX12_laysComes 22 = .ok (.lastore, 1) := by decide +kernel
theorem dX12_laysComes_23 : decode cX12_laysComes 23 = .ok (.iinc 2 1, 3) := by decide +kernel
theorem dX12_laysComes_26 : decode cX12_laysComes 26 = .ok (.goto (-24), 3) := by decide +kernel
theorem dX12_laysComes_29 : decode cX12_laysComes 29 = .ok (.iconst 0, 1) := by decide +kernel
theorem dX12_laysComes_30 : decode cX12_laysComes 30 = .ok (.istore_n 2, 1) := by decide +kernel
theorem dX12_laysComes_31 : decode cX12_laysComes 31 = .ok (.iload_n 2, 1) := by decide +kernel
theorem dX12_laysComes_32 : decode cX12_laysComes 32 = .ok (.iload_n 1, 1) := by decide +kernel
theorem dX12_laysComes_33 : decode cX12_laysComes 33 = .ok (.if_icmp .ge 71, 3) := by decide +kernel
theorem dX12_laysComes_36 : decode cX12_laysComes 36 = .ok (.iload_n 2, 1) := by decide +kernel
theorem dX12_laysComes_37 : decode cX12_laysComes 37 = .ok (.iconst 1, 1) := by decide +kernel
theorem dX12_laysComes_38 : decode cX12_laysComes 38 = .ok (.iadd, 1) := by decide +kernel
theorem dX12_laysComes_39 : decode cX12_laysComes 39 = .ok (.istore_n 3, 1) := by decide +kernel
theorem dX12_laysComes_40 : decode cX12_laysComes 40 = .ok (.iload_n 3, 1) := by decide +kernel
theorem dX12_laysComes_41 : decode cX12_laysComes 41 = .ok (.ifCond .lt 57, 3) := by decide +kernel
theorem dX12_laysComes_44 : decode cX12_laysComes 44 = .ok (.aload_n 0, 1) := by decide +kernel
theorem dX12_laysComes_45 : decode cX12_laysComes 45 = .ok (.getfield 96, 3) := by decide +kernel
theorem dX12_laysComes_48 : decode cX12_laysComes 48 = .ok (.iload_n 3, 1) := by decide +kernel
theorem dX12_laysComes_49 : decode cX12_laysComes 49 = .ok (.aload_n 0, 1) := by decide +kernel
theorem dX12_laysComes_50 : decode cX12_laysComes 50 = .ok (.getfield 96, 3) := by decide +kernel
theorem dX12_laysComes_53 : decode cX12_laysComes 53 = .ok (.iload_n 3, 1) := by decide +kernel
theorem dX12_laysComes_54 : decode cX12_laysComes 54 = .ok (.laload, 1) := by decide +kernel
theorem dX12_laysComes_55 : decode cX12_laysComes 55 = .ok (.bipush 10, 2) := by decide +kernel
theorem dX12_laysComes_57 : decode cX12_laysComes 57 = .ok (.aload_n 0, 1) := by decide +kernel
theorem dX12_laysComes_58 : decode cX12_laysComes 58 = .ok (.getfield 19, 3) := by decide +kernel
theorem dX12_laysComes_61 : decode cX12_laysComes 61 = .ok (.iload_n 2, 1) := by decide +kernel
theorem dX12_laysComes_62 : decode cX12_laysComes 62 = .ok (.baload, 1) := by decide +kernel
theorem dX12_laysComes_63 : decode cX12_laysComes 63 = .ok (.isub, 1) := by decide +kernel
theorem dX12_laysComes_64 : decode cX12_laysComes 64 = .ok (.i2l, 1) := by decide +kernel
theorem dX12_laysComes_65 : decode cX12_laysComes 65 = .ok (.lmul, 1) := by decide +kernel
theorem dX12_laysComes_66 : decode cX12_laysComes 66 = .ok (.iload_n 3, 1) := by decide +kernel
theorem dX12_laysComes_67 : decode cX12_laysComes 67 = .ok (.ifCond .le 22, 3) := by decide +kernel
theorem dX12_laysComes_70 : decode cX12_laysComes 70 = .ok (.aload_n 0, 1) := by decide +kernel
theorem dX12_laysComes_71 : decode cX12_laysComes 71 = .ok (.getfield 96, 3) := by decide +kernel
theorem dX12_laysComes_74 : decode cX12_laysComes 74 = .ok (.iload_n 3, 1) := by decide +kernel
theorem dX12_laysComes_75 : decode cX12_laysComes 75 = .ok (.iconst 1, 1) := by decide +kernel
theorem dX12_laysComes_76 : decode cX12_laysComes 76 = .ok (.isub, 1) := by decide +kernel
theorem dX12_laysComes_77 : decode cX12_laysComes 77 = .ok (.laload, 1) := by decide +kernel
theorem dX12_laysComes_78 : decode cX12_laysComes 78 = .ok (.aload_n 0, 1) := by decide +kernel
theorem dX12_laysComes_79 : decode cX12_laysComes 79 = .ok (.getfield 19, 3) := by decide +kernel
theorem dX12_laysComes_82 : decode cX12_laysComes 82 = .ok (.iload_n 2, 1) := by decide +kernel
theorem dX12_laysComes_83 : decode cX12_laysComes 83 = .ok (.baload, 1) := by decide +kernel
theorem dX12_laysComes_84 : decode cX12_laysComes 84 = .ok (.i2l, 1) := by decide +kernel
theorem dX12_laysComes_85 : decode cX12_laysComes 85 = .ok (.lmul, 1) := by decide +kernel
theorem dX12_laysComes_86 : decode cX12_laysComes 86 = .ok (.goto 4, 3) := by decide +kernel
theorem dX12_laysComes_89 : decode cX12_laysComes 89 = .ok (.lconst 0, 1) := by decide +kernel
theorem dX12_laysComes_90 : decode cX12_laysComes 90 = .ok (.ladd, 1) := by decide +kernel
theorem dX12_laysComes_91 : decode cX12_laysComes 91 = .ok (.lastore, 1) := by decide +kernel
theorem dX12_laysComes_92 : decode cX12_laysComes 92 = .ok (.iinc 3 (-1), 3) := by decide +kernel
theorem dX12_laysComes_95 : decode cX12_laysComes 95 = .ok (.goto (-55), 3) := by decide +kernel
theorem dX12_laysComes_98 : decode cX12_laysComes 98 = .ok (.iinc 2 1, 3) := by decide +kernel
theorem dX12_laysComes_101 : decode cX12_laysComes 101 = .ok (.goto (-70), 3) := by decide +kernel
theorem dX12_laysComes_104 : decode cX12_laysComes 104 = .ok (.return_, 1) := by decide +kernel
set_option maxRecDepth 100000 in
def f_m_laysComes (x1 : Int) (V : Nat → Nat → Int) (J : Nat → Nat → Int) (Rr : Nat → Nat → Nat) : (xS) → Prop :=
  lop2 (15) (fun rc1636 (z1635 : Int) (J1636 : Nat → Nat → Int) => (if 13 ≤ z1635 then lop2 (14) (fun rc3050 (z3049 : Int) (J3050 : Nat → Nat → Int) => (if x1 ≤ z3049 then rtn (V, J3050, Rr) else lop2 (15) (fun rc3198 (z3197 : Int) (J3198 : Nat → Nat → Int) => (if z3197 < 0 then rc3050 (z3049 + 1) J3198 else rdb (J3198 29 z3197.toNat) fun z3237 => rdb (V 4 z3049.toNat) fun z3238 => fct (-128 ≤ z3238 ∧ z3238 ≤ 127) <| rdb (wrJ (z3237 * (-z3238 + 10))) fun z3239 => jnk (fun (z3242 : Int) => rdb (wrJ (z3239 + z3242)) fun z3244 => rdb (up2 J3198 29 z3197.toNat z3244) fun J3245 => rc3198 (z3197 - 1) J3245) fun jf3243 => (if z3197 ≤ 0 then jf3243 0 else rdb (J3198 29 ((z3197 - 1).toNat)) fun z3247 => rdb (wrJ (z3247 * z3238)) fun z3248 => jf3243 z3248))) (z3049 + 1) J3050)) 0 J1636 else jnk (fun (z3249 : Int) => rdb (up2 J1636 29 z1635.toNat z3249) fun J3251 => rc1636 (z1635 + 1) J3251) fun jf3250 => (if ¬ z1635 = 0 then jf3250 0 else jf3250 1))) 0 J
set_option maxHeartbeats 8000000 in
set_option maxRecDepth 100000 in
theorem m_laysComes (l : Launch) (D : va_G) (cy : Nat → ClassId) (ad : Nat → Nat) (G : Nat → Nat → Int) (V J : Nat → Nat → Int) (Rr : Nat → Nat → Nat) (hI : MI G V) (hJ : VJ J) (hR : MR Rr) (x1 : Int) (bx1 : 0 ≤ x1 ∧ x1 ≤ 12) : xMv l D (xTY cy) yX12_laysComes cX12_laysComes 4 none 0 0 0 0 [.ref (ad 0), vI x1] (MW cy ad V J Rr) (fun u : xS => MW cy ad u.1 u.2.1 u.2.2) (fun u : xS => MS G u ∧ FBm 0 V u.1 ∧ (f_m_laysComes x1 V J Rr) u) := by
  refine xMv.mk (lv0 := [(0, .ref (ad 0)), (1, vI x1)]) (by decide) rfl (Nat.le_of_ble_eq_true rfl) (fun p e s m below meth c A C hr hnm hAe => ?_)
  have C : xC2 p s m _ meth c D A s.heap 4 cX12_laysComes RX12 (xTY cy) := C
  have hB : FBm 0 V V := FBm.rf _ _
  have hF := Imp.of_eq (f_m_laysComes.eq_def x1 V J Rr)
  refine x_iconst C.1 (n := 0) dX12_laysComes_0 ?_
  refine x_istore_n C.1 (lv' := [(2, vI 0), (0, .ref (ad 0)), (1, vI x1)]) dX12_laysComes_1 (by decide) rfl ?_
  obtain ⟨bd1636, hbd1636, hF⟩ := lop2_ex hF
  refine x_loop (I := fun x : Int × (Nat → Nat → Int) => match x with | (z1635, J1636) => (0 ≤ z1635 ∧ z1635 ≤ 13) ∧ VJ J1636 ∧ (∃ nf : Nat, (14 - z1635).toNat < nf ∧ Imp (lop2 nf bd1636 z1635 J1636) (f_m_laysComes x1 V J Rr))) (μ := fun x : Int × (Nat → Nat → Int) => match x with | (z1635, J1636) => (14 - z1635).toNat) (wsf := fun x : Int × (Nat → Nat → Int) => match x with | (z1635, J1636) => MW cy ad V J1636 Rr) (lvf := fun x : Int × (Nat → Nat → Int) => match x with | (z1635, J1636) => [(2, vI z1635), (0, .ref (ad 0)), (1, vI x1)]) (fun x hI1636x ih1636 => ?_) (0, J) ⟨⟨by decide, by decide⟩, hJ, ⟨_, (by omega), hF⟩⟩ rfl rfl
  obtain ⟨z1635, J1636⟩ := x
  obtain ⟨bz1635, hJ1636, nf1636, hn1636, hF⟩ := hI1636x
  try dsimp only
  obtain ⟨nf1636, rfl⟩ : ∃ mm, nf1636 = mm + 1 := ⟨nf1636 - 1, (Nat.succ_pred_eq_of_pos (Nat.lt_of_le_of_lt (Nat.zero_le _) hn1636)).symm⟩
  replace hF := hF.to (lop2_s hbd1636)
  refine x_iload_n C.1 dX12_laysComes_2 0 rfl ?_
  refine x_bipush C.1 (n := 13) dX12_laysComes_3 ?_
  refine x_icmp_ge C.1 (tgt := 29) dX12_laysComes_5 (by decide) (by omega) (by decide) (fun hc2449 => ?_) (fun hc2449 => ?_)
  · replace hF := hF.to (if_pos hc2449)
    refine x_iconst C.1 (n := 0) dX12_laysComes_29 ?_
    refine x_istore_n C.1 (lv' := [(2, vI 0), (0, .ref (ad 0)), (1, vI x1)]) dX12_laysComes_30 (by decide) rfl ?_
    obtain ⟨bd3050, hbd3050, hF⟩ := lop2_ex hF
    refine x_loop (I := fun x : Int × (Nat → Nat → Int) => match x with | (z3049, J3050) => (0 ≤ z3049 ∧ z3049 ≤ 12) ∧ VJ J3050 ∧ (∃ nf : Nat, (13 - z3049).toNat < nf ∧ Imp (lop2 nf bd3050 z3049 J3050) (f_m_laysComes x1 V J Rr))) (μ := fun x : Int × (Nat → Nat → Int) => match x with | (z3049, J3050) => (13 - z3049).toNat) (wsf := fun x : Int × (Nat → Nat → Int) => match x with | (z3049, J3050) => MW cy ad V J3050 Rr) (lvf := fun x : Int × (Nat → Nat → Int) => match x with | (z3049, J3050) => [(2, vI z3049), (0, .ref (ad 0)), (1, vI x1)]) (fun x hI3050x ih3050 => ?_) (0, J1636) ⟨⟨by decide, by decide⟩, hJ1636, ⟨_, (by omega), hF⟩⟩ rfl rfl
    obtain ⟨z3049, J3050⟩ := x
    obtain ⟨bz3049, hJ3050, nf3050, hn3050, hF⟩ := hI3050x
    try dsimp only
    obtain ⟨nf3050, rfl⟩ : ∃ mm, nf3050 = mm + 1 := ⟨nf3050 - 1, (Nat.succ_pred_eq_of_pos (Nat.lt_of_le_of_lt (Nat.zero_le _) hn3050)).symm⟩
    replace hF := hF.to (lop2_s hbd3050)
    refine x_iload_n C.1 dX12_laysComes_31 0 rfl ?_
    refine x_iload_n C.1 dX12_laysComes_32 2 rfl ?_
    refine x_icmp_ge C.1 (tgt := 104) dX12_laysComes_33 (by decide) (by omega) (by omega) (fun hc3150 => ?_) (fun hc3150 => ?_)
    · replace hF := hF.to (if_pos hc3150)
      exact x_vret (S := xS) (post := (fun u : xS => MS G u ∧ FBm 0 V u.1 ∧ (f_m_laysComes x1 V J Rr) u)) (w1 := (fun u : xS => MW cy ad u.1 u.2.1 u.2.2)) C hr rfl dX12_laysComes_104 (V, J3050, Rr) rfl ⟨⟨hI, hJ3050, hR⟩, hB, hF _ rfl⟩
    · replace hF := hF.to (if_neg hc3150)
      refine x_iload_n C.1 dX12_laysComes_36 0 rfl ?_
      refine x_iconst C.1 (n := 1) dX12_laysComes_37 ?_
      refine x_iadd C.1 (v := z3049 + 1) (by omega) dX12_laysComes_38 ?_
      refine x_istore_n C.1 (lv' := [(3, vI (z3049 + 1)), (2, vI z3049), (0, .ref (ad 0)), (1, vI x1)]) dX12_laysComes_39 (by decide) rfl ?_
      obtain ⟨bd3198, hbd3198, hF⟩ := lop2_ex hF
      refine x_loop (I := fun x : Int × (Nat → Nat → Int) => match x with | (z3197, J3198) => (-1 ≤ z3197 ∧ z3197 ≤ 12) ∧ VJ J3198 ∧ (∃ nf : Nat, (z3197 - (-2)).toNat < nf ∧ Imp (lop2 nf bd3198 z3197 J3198) (f_m_laysComes x1 V J Rr))) (μ := fun x : Int × (Nat → Nat → Int) => match x with | (z3197, J3198) => (z3197 - (-2)).toNat) (wsf := fun x : Int × (Nat → Nat → Int) => match x with | (z3197, J3198) => MW cy ad V J3198 Rr) (lvf := fun x : Int × (Nat → Nat → Int) => match x with | (z3197, J3198) => [(3, vI z3197), (2, vI z3049), (0, .ref (ad 0)), (1, vI x1)]) (fun x hI3198x ih3198 => ?_) (z3049 + 1, J3050) ⟨⟨by omega, by omega⟩, hJ3050, ⟨_, (by omega), hF⟩⟩ rfl rfl
      obtain ⟨z3197, J3198⟩ := x
      obtain ⟨bz3197, hJ3198, nf3198, hn3198, hF⟩ := hI3198x
      try dsimp only
      obtain ⟨nf3198, rfl⟩ : ∃ mm, nf3198 = mm + 1 := ⟨nf3198 - 1, (Nat.succ_pred_eq_of_pos (Nat.lt_of_le_of_lt (Nat.zero_le _) hn3198)).symm⟩
      replace hF := hF.to (lop2_s hbd3198)
      refine x_iload_n C.1 dX12_laysComes_40 0 rfl ?_
      refine x_if_lt C.1 (tgt := 98) dX12_laysComes_41 (by decide) (by omega) (fun hc3236 => ?_) (fun hc3236 => ?_)
      · replace hF := hF.to (if_pos hc3236)
        refine x_iinc C.1 (v := z3049 + 1) (lv' := [(2, vI (z3049 + 1)), (3, vI z3197), (0, .ref (ad 0)), (1, vI x1)]) (by omega) dX12_laysComes_98 1 rfl (by decide) rfl ?_
        refine x_goto C.1 (tgt := 31) dX12_laysComes_101 (by decide) ?_
        refine x_lv [(2, vI (z3049 + 1)), (0, .ref (ad 0)), (1, vI x1)] [0, 2, 3] rfl ?_
        have hmu3050 : (13 - (z3049 + 1)).toNat < (13 - z3049).toNat := (by omega)
        exact ih3050 (z3049 + 1, J3198) ⟨⟨by omega, by omega⟩, hJ3198, ⟨nf3050, Nat.lt_of_lt_of_le hmu3050 (Nat.le_of_lt_succ hn3050), hF⟩⟩ hmu3050
      · replace hF := hF.to (if_neg hc3236)
        refine x_aload_n C.1 dX12_laysComes_44 2 rfl ?_
        refine x_getA C (N := 33) (i := 0) (by decide) rfl vc_X12 wx_X12 45 (by decide) wf_X12_96 (a := 29) rfl dX12_laysComes_45 ?_
        refine x_iload_n C.1 dX12_laysComes_48 0 rfl ?_
        refine x_aload_n C.1 dX12_laysComes_49 2 rfl ?_
        refine x_getA C (N := 33) (i := 0) (by decide) rfl vc_X12 wx_X12 45 (by decide) wf_X12_96 (a := 29) rfl dX12_laysComes_50 ?_
        refine x_iload_n C.1 dX12_laysComes_53 0 rfl ?_
        obtain ⟨z3237, ez3237, bz3237⟩ := hJ3198.rd 29 z3197.toNat
        replace hF := hF.to (rdb_e (z := z3237) ez3237)
        refine x_lald C (N := 33) (i := 29) (q := z3197) (by decide) rfl (by omega) (by decide) dX12_laysComes_54 (a := z3237) ez3237 ?_
        refine x_bipush C.1 (n := 10) dX12_laysComes_55 ?_
        refine x_aload_n C.1 dX12_laysComes_57 2 rfl ?_
        refine x_getA C (N := 33) (i := 0) (by decide) rfl vc_X12 wx_X12 3 (by decide) wf_X12_19 (a := 4) rfl dX12_laysComes_58 ?_
        refine x_iload_n C.1 dX12_laysComes_61 1 rfl ?_
        obtain ⟨z3238, ez3238, bz3238⟩ := hI.rd 4 z3049.toNat (x := -128) (y := 127) rfl
        replace hF := hF.to (rdb_e (z := z3238) ez3238)
        replace hF := hF.fc bz3238
        refine x_bald C (N := 33) (i := 4) (q := z3049) (by decide) rfl (by omega) (by decide) dX12_laysComes_62 (a := z3238) ez3238 ?_
        refine x_isub C.1 (v := -z3238 + 10) (by omega) dX12_laysComes_63 ?_
        refine x_i2l C.1 dX12_laysComes_64 (by omega) ?_
        refine x_lmul C.1 rfl dX12_laysComes_65 ?_
        refine x_wrapJg ?_
        intro z3239 bz3239 ew3239
        replace hF := hF.to (rdb_e (z := z3239) ew3239.symm)
        refine x_iload_n C.1 dX12_laysComes_66 0 rfl ?_
        obtain ⟨jf3243, hjf3243, hF⟩ := jn_ex hF
        refine x_join (I := fun z3242 : Int => (-9223372036854775808 ≤ z3242 ∧ z3242 ≤ 9223372036854775807) ∧ Imp (jf3243 z3242) (f_m_laysComes x1 V J Rr)) (wsf := fun z3242 : Int => MW cy ad V J3198 Rr) (lvf := fun z3242 : Int => [(3, vI z3197), (2, vI z3049), (0, .ref (ad 0)), (1, vI x1)]) (stf := fun z3242 : Int => [vJ z3242, vJ z3239, vI z3197, .ref (ad 29)]) 90 (fun z3242 hI3243x => ?_) (fun jn3243 => ?_)
        · obtain ⟨bz3242, hF⟩ := hI3243x
          try dsimp only
          replace hF := hF.to (jn_s1 hjf3243)
          refine x_ladd C.1 (v := z3239 + z3242) (by omega) dX12_laysComes_90 ?_
          refine x_wrapJg ?_
          intro z3244 bz3244 ew3244
          replace hF := hF.to (rdb_e (z := z3244) ew3244.symm)
          refine x_last C (N := 33) (i := 29) (q := z3197) (a := z3244) (by decide) rfl (by omega) (by decide) dX12_laysComes_91 ?_
          refine x_gJ ?_
          intro J3245 hJe3245
          have hJ3245 : VJ J3245 := hJ3198.upS hJe3245 (by omega)
          replace hF := hF.to (rdb_e (z := J3245) hJe3245.symm)
          refine x_iinc C.1 (v := z3197 - 1) (lv' := [(3, vI (z3197 - 1)), (2, vI z3049), (0, .ref (ad 0)), (1, vI x1)]) (by omega) dX12_laysComes_92 0 rfl (by decide) rfl ?_
          refine x_goto C.1 (tgt := 40) dX12_laysComes_95 (by decide) ?_
          have hmu3198 : ((z3197 - 1) - (-2)).toNat < (z3197 - (-2)).toNat := (by omega)
          exact ih3198 (z3197 - 1, J3245) ⟨⟨by omega, by omega⟩, hJ3245, ⟨nf3198, Nat.lt_of_lt_of_le hmu3198 (Nat.le_of_lt_succ hn3198), hF⟩⟩ hmu3198
        · refine x_if_le C.1 (tgt := 89) dX12_laysComes_67 (by decide) (by omega) (fun hc3246 => ?_) (fun hc3246 => ?_)
          · replace hF := hF.to (if_pos hc3246)
            refine x_lconst0 C.1 dX12_laysComes_89 ?_
            exact jn3243 0 ⟨⟨by decide, by decide⟩, hF⟩
          · replace hF := hF.to (if_neg hc3246)
            refine x_aload_n C.1 dX12_laysComes_70 2 rfl ?_
            refine x_getA C (N := 33) (i := 0) (by decide) rfl vc_X12 wx_X12 45 (by decide) wf_X12_96 (a := 29) rfl dX12_laysComes_71 ?_
            refine x_iload_n C.1 dX12_laysComes_74 0 rfl ?_
            refine x_iconst C.1 (n := 1) dX12_laysComes_75 ?_
            refine x_isub C.1 (v := z3197 - 1) (by omega) dX12_laysComes_76 ?_
            obtain ⟨z3247, ez3247, bz3247⟩ := hJ3198.rd 29 ((z3197 - 1).toNat)
            replace hF := hF.to (rdb_e (z := z3247) ez3247)
            refine x_lald C (N := 33) (i := 29) (q := z3197 - 1) (by decide) rfl (by omega) (by decide) dX12_laysComes_77 (a := z3247) ez3247 ?_
            refine x_aload_n C.1 dX12_laysComes_78 2 rfl ?_
            refine x_getA C (N := 33) (i := 0) (by decide) rfl vc_X12 wx_X12 3 (by decide) wf_X12_19 (a := 4) rfl dX12_laysComes_79 ?_
            refine x_iload_n C.1 dX12_laysComes_82 1 rfl ?_
            refine x_bald C (N := 33) (i := 4) (q := z3049) (by decide) rfl (by omega) (by decide) dX12_laysComes_83 (a := z3238) ez3238 ?_
            refine x_i2l C.1 dX12_laysComes_84 (by omega) ?_
            refine x_lmul C.1 rfl dX12_laysComes_85 ?_
            refine x_wrapJg ?_
            intro z3248 bz3248 ew3248
            replace hF := hF.to (rdb_e (z := z3248) ew3248.symm)
            refine x_goto C.1 (tgt := 90) dX12_laysComes_86 (by decide) ?_
            exact jn3243 z3248 ⟨⟨by omega, by omega⟩, hF⟩
  · replace hF := hF.to (if_neg hc2449)
    refine x_aload_n C.1 dX12_laysComes_8 1 rfl ?_
    refine x_getA C (N := 33) (i := 0) (by decide) rfl vc_X12 wx_X12 45 (by decide) wf_X12_96 (a := 29) rfl dX12_laysComes_9 ?_
    refine x_iload_n C.1 dX12_laysComes_12 0 rfl ?_
    refine x_iload_n C.1 dX12_laysComes_13 0 rfl ?_
    obtain ⟨jf3250, hjf3250, hF⟩ := jn_ex hF
    refine x_join (I := fun z3249 : Int => (0 ≤ z3249 ∧ z3249 ≤ 1) ∧ Imp (jf3250 z3249) (f_m_laysComes x1 V J Rr)) (wsf := fun z3249 : Int => MW cy ad V J1636 Rr) (lvf := fun z3249 : Int => [(2, vI z1635), (0, .ref (ad 0)), (1, vI x1)]) (stf := fun z3249 : Int => [vJ z3249, vI z1635, .ref (ad 29)]) 22 (fun z3249 hI3250x => ?_) (fun jn3250 => ?_)
    · obtain ⟨bz3249, hF⟩ := hI3250x
      try dsimp only
      replace hF := hF.to (jn_s1 hjf3250)
      refine x_last C (N := 33) (i := 29) (q := z1635) (a := z3249) (by decide) rfl (by omega) (by decide) dX12_laysComes_22 ?_
      refine x_gJ ?_
      intro J3251 hJe3251
      have hJ3251 : VJ J3251 := hJ1636.upS hJe3251 (by omega)
      replace hF := hF.to (rdb_e (z := J3251) hJe3251.symm)
      refine x_iinc C.1 (v := z1635 + 1) (lv' := [(2, vI (z1635 + 1)), (0, .ref (ad 0)), (1, vI x1)]) (by omega) dX12_laysComes_23 0 rfl (by decide) rfl ?_
      refine x_goto C.1 (tgt := 2) dX12_laysComes_26 (by decide) ?_
      have hmu1636 : (14 - (z1635 + 1)).toNat < (14 - z1635).toNat := (by omega)
      exact ih1636 (z1635 + 1, J3251) ⟨⟨by omega, by omega⟩, hJ3251, ⟨nf1636, Nat.lt_of_lt_of_le hmu1636 (Nat.le_of_lt_succ hn1636), hF⟩⟩ hmu1636
    · refine x_if_ne C.1 (tgt := 21) dX12_laysComes_14 (by decide) (by omega) (fun hc3252 => ?_) (fun hc3252 => ?_)
      · replace hF := hF.to (if_pos hc3252)
        refine x_lconst0 C.1 dX12_laysComes_21 ?_
        exact jn3250 0 ⟨⟨by decide, by decide⟩, hF⟩
      · replace hF := hF.to (if_neg (fun hh => hh hc3252))
        refine x_lconst1 C.1 dX12_laysComes_17 ?_
        refine x_goto C.1 (tgt := 22) dX12_laysComes_18 (by decide) ?_
        exact jn3250 1 ⟨⟨by decide, by decide⟩, hF⟩
