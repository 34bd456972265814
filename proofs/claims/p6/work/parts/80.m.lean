theorem dX12_endsPiece_0 : decode cX12_endsPiece 0 = .ok (.aload_n 0, 1) := by decide +kernel
theorem dX12_endsPiece_1 : decode cX12_endsPiece 1 = .ok (.invokevirtual 177, 3) := by decide +kernel
theorem dX12_endsPiece_4 : decode cX12_endsPiece 4 = .ok (.bipush 10, 2) := by decide +kernel
theorem dX12_endsPiece_6 : decode cX12_endsPiece 6 = .ok (.if_icmp .ne 33, 3) := by decide +kernel
theorem dX12_endsPiece_9 : decode cX12_endsPiece 9 = .ok (.aload_n 0, 1) := by decide +kernel
theorem dX12_endsPiece_10 : decode cX12_endsPiece 10 = .ok (.bipush 10, 2) := by decide +kernel
theorem dX12_endsPiece_12 : decode cX12_endsPiece 12 = .ok (.iconst 0, 1) := by decide +kernel
theorem dX12_endsPiece_13 : decode cX12_endsPiece 13 = .ok (.invokevirtual 180, 3) := by decide +kernel
theorem dX12_endsPiece_16 : decode cX12_endsPiece 16 = .ok (.aload_n 0, 1) := by decide +kernel
theorem dX12_endsPiece_17 : decode cX12_endsPiece 17 = .ok (.aload_n 0, 1) := by decide +kernel
theorem dX12_endsPiece_18 : decode cX12_endsPiece 18 = .ok (.getfield 174, 3) := by decide +kernel
theorem dX12_endsPiece_21 : decode cX12_endsPiece 21 = .ok (.iconst 1, 1) := by decide +kernel
theorem dX12_endsPiece_22 : decode cX12_endsPiece 22 = .ok (.isub, 1) := by decide +kernel
theorem dX12_endsPiece_23 : decode cX12_endsPiece 23 = .ok (.putfield 174, 3) := by decide +kernel
theorem dX12_endsPiece_26 : decode cX12_endsPiece 26 = .ok (.aload_n 0, 1) := by decide +kernel
theorem dX12_endsPiece_27 : decode cX12_endsPiece 27 = .ok (.aload_n 0, 1) := by decide +kernel
theorem dX12_endsPiece_28 : decode cX12_endsPiece 28 = .ok (.getfield 171, 3) := by decide +kernel
theorem dX12_endsPiece_31 : decode cX12_endsPiece 31 = .ok (.iconst 1, 1) := by decide +kernel
theorem dX12_endsPiece_32 : decode cX12_endsPiece 32 = .ok (.isub, 1) := by decide +kernel
theorem dX12_endsPiece_33 : decode cX12_endsPiece 33 = .ok (.putfield 171, 3) := by decide +kernel
theorem dX12_endsPiece_36 : decode cX12_endsPiece 36 = .ok (.goto (-36), 3) := by decide +kernel
theorem dX12_endsPiece_39 : decode cX12_endsPiece 39 = .ok (.return_, 1) := by decide +kernel
set_option maxRecDepth 100000 in
def f_m_endsPiece (V : Nat → Nat → Int) (J : Nat → Nat → Int) (Rr : Nat → Nat → Nat) : (Nat → Nat → Int) → Prop :=
  lop1 ((V 0 11).toNat + 1) (fun rc23 (V23 : Nat → Nat → Int) => rdb (V23 0 5) fun z24 => fct (0 ≤ z24 ∧ z24 ≤ 220) <| rdb (V23 0 6) fun z25 => fct (0 ≤ z25 ∧ z25 ≤ 220) <| rdb (V23 0 10) fun z26 => fct (0 ≤ z26 ∧ z26 ≤ 220) <| rdb (V23 0 11) fun z27 => fct (0 ≤ z27 ∧ z27 ≤ 220) <| calR (f_m_waitTop V23 J Rr) fun z28 => (if ¬ z28 = 10 then rtn V23 else calUM 590295810358705652736 V23 (f_m_notes 10 0 V23 J Rr) fun V30 => rdb (up2 V30 0 11 (z27 - 1)) fun V31 => rdb (V31 0 9) fun z32 => rdb (wr (z32 - 1)) fun z33 => rdb (up2 V31 0 9 z33) fun V34 => rc23 V34)) V
set_option maxHeartbeats 8000000 in
set_option maxRecDepth 100000 in
theorem m_endsPiece (l : Launch) (D : va_G) (cy : Nat → ClassId) (ad : Nat → Nat) (G : Nat → Nat → Int) (V J : Nat → Nat → Int) (Rr : Nat → Nat → Nat) (hI : MI G V) (hJ : VJ J) (hR : MR Rr) (f d : Int) (hC : CI f d 1 V) (hP : PG V) (h0 : 0 < V 0 11) : xMv l D (xTY cy) yX12_endsPiece cX12_endsPiece 1 none 1 22 0 0 [.ref (ad 0)] (MW cy ad V J Rr) (fun u : Nat → Nat → Int => MW cy ad u J Rr) (fun u : Nat → Nat → Int => MI G u ∧ pEC f d V u ∧ FBm 590295810358705655296 V u ∧ (f_m_endsPiece V J Rr) u) := by
  refine xMv.mk (lv0 := [(0, .ref (ad 0))]) (by decide) rfl (Nat.le_of_ble_eq_true rfl) (fun p e s m below meth c A C hr hnm hAe => ?_)
  have C : xC2 p s m _ meth c D A s.heap 1 cX12_endsPiece RX12 (xTY cy) := C
  have hB : FBm 590295810358705655296 V V := FBm.rf _ _
  have hF := Imp.of_eq (f_m_endsPiece.eq_def V J Rr)
  obtain ⟨bd23, hbd23, hF⟩ := lop1_ex hF
  refine x_loop (I := fun V23 : (Nat → Nat → Int) => MI G V23 ∧ FBm 590295810358705655296 V V23 ∧ pEC f d V V23 ∧ (∃ nf : Nat, (V23 0 11).toNat < nf ∧ Imp (lop1 nf bd23 V23) (f_m_endsPiece V J Rr))) (μ := fun V23 : (Nat → Nat → Int) => (V23 0 11).toNat) (wsf := fun V23 : (Nat → Nat → Int) => MW cy ad V23 J Rr) (lvf := fun V23 : (Nat → Nat → Int) => [(0, .ref (ad 0))]) (fun V23 hI23x ih23 => ?_) V ⟨hI, hB, (pEC.rf hC hP h0), ⟨_, (Nat.lt_succ_self _), hF⟩⟩ rfl rfl
  obtain ⟨hI23, hB23, hec, nf23, hn23, hF⟩ := hI23x
  try dsimp only
  obtain ⟨nf23, rfl⟩ : ∃ mm, nf23 = mm + 1 := ⟨nf23 - 1, (Nat.succ_pred_eq_of_pos (Nat.lt_of_le_of_lt (Nat.zero_le _) hn23)).symm⟩
  replace hF := hF.to (lop1_s hbd23)
  obtain ⟨z24, ez24, bz24⟩ := hI23.rd 0 5 (x := 0) (y := 220) rfl
  replace hF := hF.to (rdb_e (z := z24) ez24)
  replace hF := hF.fc bz24
  obtain ⟨z25, ez25, bz25⟩ := hI23.rd 0 6 (x := 0) (y := 220) rfl
  replace hF := hF.to (rdb_e (z := z25) ez25)
  replace hF := hF.fc bz25
  obtain ⟨z26, ez26, bz26⟩ := hI23.rd 0 10 (x := 0) (y := 220) rfl
  replace hF := hF.to (rdb_e (z := z26) ez26)
  replace hF := hF.fc bz26
  obtain ⟨z27, ez27, bz27⟩ := hI23.rd 0 11 (x := 0) (y := 220) rfl
  replace hF := hF.to (rdb_e (z := z27) ez27)
  replace hF := hF.fc bz27
  have hc2 := hec.1.1.c200 hec.1.2.1
  rw [ez24, ez26, ez27] at hc2
  have hpz := hec.1.2.1
  unfold PG at hpz
  rw [ez24, ez25, ez26, ez27] at hpz
  refine x_aload_n C.1 dX12_endsPiece_0 0 rfl ?_
  refine x_callVi C (As := []) (rest := []) 0 (xw_at (N := 33) (i := 0) (by decide) rfl) vc_X12 (m_waitTop l D cy ad G V23 J Rr hI23 hJ hR ) (l1 := []) (l2 := []) (List.append_nil _).symm (w2 := fun _ => MW cy ad V23 J Rr) (fun _ => List.append_nil _) rfl wm_yX12_waitTop wn_X12 wl_X12_177 wi_yX12_waitTop we_yX12_waitTop hd_yX12_waitTop rfl ⟨Nat.le_of_ble_eq_true rfl, Nat.le_of_ble_eq_true rfl⟩ (Nat.le_of_ble_eq_true rfl) ⟨Nat.le_of_ble_eq_true rfl, Nat.le_of_ble_eq_true rfl⟩ dX12_endsPiece_1 (fun z28 u28 bz28 h28 => ?_)
  obtain ⟨hx28_0, hFc28⟩ := h28
  replace hF := calR_i hF hFc28
  refine x_bipush C.1 (n := 10) dX12_endsPiece_4 ?_
  refine x_icmp_ne C.1 (tgt := 39) dX12_endsPiece_6 (by decide) (by omega) (by decide) (fun hc29 => ?_) (fun hc29 => ?_)
  · replace hF := hF.to (if_pos hc29)
    exact x_vret (S := (Nat → Nat → Int)) (post := (fun u : Nat → Nat → Int => MI G u ∧ pEC f d V u ∧ FBm 590295810358705655296 V u ∧ (f_m_endsPiece V J Rr) u)) (w1 := (fun u : Nat → Nat → Int => MW cy ad u J Rr)) C hr rfl dX12_endsPiece_39 V23 rfl ⟨hI23, hec, hB23, hF _ rfl⟩
  · replace hF := hF.to (if_neg (fun hh => hh hc29))
    have hm0 := (ptop_n (V := V23) (by omega)).1
    rw [ez27] at hm0
    refine x_aload_n C.1 dX12_endsPiece_9 0 rfl ?_
    refine x_bipush C.1 (n := 10) dX12_endsPiece_10 ?_
    refine x_iconst C.1 (n := 0) dX12_endsPiece_12 ?_
    refine x_callVv C (As := [vI 10, vI 0]) (rest := []) 0 (xw_at (N := 33) (i := 0) (by decide) rfl) vc_X12 (m_notes l D cy ad G V23 J Rr hI23 hJ hR 10 ⟨by decide, by decide⟩ 0 ⟨by decide, by decide⟩ (by rw [ez26]; omega)) (l1 := []) (l2 := []) (List.append_nil _).symm (w2 := fun u : Nat → Nat → Int => MW cy ad u J Rr) (fun _ => List.append_nil _) rfl wm_yX12_notes wn_X12 wl_X12_180 wi_yX12_notes we_yX12_notes hd_yX12_notes rfl ⟨Nat.le_of_ble_eq_true rfl, Nat.le_of_ble_eq_true rfl⟩ (Nat.le_of_ble_eq_true rfl) ⟨Nat.le_of_ble_eq_true rfl, Nat.le_of_ble_eq_true rfl⟩ dX12_endsPiece_13 (fun V30 h30 => ?_)
    obtain ⟨hI30, hx30_0, hBc30, hFc30⟩ := h30
    replace hF := calUM_i hF hFc30 hBc30
    have hB30 := hB23.tr hBc30 (m := 590295810358705652736) rfl
    refine x_aload_n C.1 dX12_endsPiece_16 0 rfl ?_
    refine x_aload_n C.1 dX12_endsPiece_17 0 rfl ?_
    refine x_getI C (N := 33) (i := 0) (by decide) rfl vc_X12 wx_X12 11 (by decide) wf_X12_174 rfl dX12_endsPiece_18 (a := z27) ((congrFun (congrFun hx30_0 0) (11)).trans ((up2_n _ _ (Or.inr (by decide))).trans ((up2_n _ _ (Or.inl (by decide))).trans ez27))) ?_
    refine x_iconst C.1 (n := 1) dX12_endsPiece_21 ?_
    refine x_isub C.1 (v := z27 - 1) (by omega) dX12_endsPiece_22 ?_
    refine x_putI C (N := 33) (i := 0) (by decide) rfl vc_X12 wx_X12 11 (by decide) wf_X12_174 tyX12 tyX12_ok nmX12 rfl (tyX12_ok 11 (by decide)) rfl dX12_endsPiece_23 rfl rfl ?_
    refine x_gV ?_
    intro V31 hV31
    have hI31 : MI G V31 := hI30.up hV31 rfl (by omega) rfl (Or.inl (by decide))
    have hB31 := hB30.up hV31 rfl
    replace hF := hF.to (rdb_e (z := V31) hV31.symm)
    refine x_aload_n C.1 dX12_endsPiece_26 0 rfl ?_
    refine x_aload_n C.1 dX12_endsPiece_27 0 rfl ?_
    obtain ⟨z32, ez32, bz32⟩ := hI31.rd 0 9 (x := -2147483648) (y := 2147483647) rfl
    replace hF := hF.to (rdb_e (z := z32) ez32)
    refine x_getI C (N := 33) (i := 0) (by decide) rfl vc_X12 wx_X12 9 (by decide) wf_X12_171 rfl dX12_endsPiece_28 (a := z32) ez32 ?_
    refine x_iconst C.1 (n := 1) dX12_endsPiece_31 ?_
    refine x_isub C.1 (v := z32 - 1) (by omega) dX12_endsPiece_32 ?_
    refine x_wrapg ?_
    intro z33 bz33 ew33
    replace hF := hF.to (rdb_e (z := z33) ew33.symm)
    refine x_putI C (N := 33) (i := 0) (by decide) rfl vc_X12 wx_X12 9 (by decide) wf_X12_171 tyX12 tyX12_ok nmX12 rfl (tyX12_ok 9 (by decide)) rfl dX12_endsPiece_33 rfl rfl ?_
    refine x_gV ?_
    intro V34 hV34
    have hI34 : MI G V34 := hI31.up hV34 rfl (by omega) rfl (Or.inl (by decide))
    have hB34 := hB31.up hV34 rfl
    replace hF := hF.to (rdb_e (z := V34) hV34.symm)
    refine x_goto C.1 (tgt := 0) dX12_endsPiece_36 (by decide) ?_
    have hm1 := ((congrFun (congrFun hV34 0) 11).trans ((up2_n _ _ (Or.inr (by decide))).trans ((congrFun (congrFun hV31 0) 11).trans (up2_s _ _ _ _))))
    have hm2 := ez27
    have hm3 := (ptop_n (V := V23) (by omega)).1
    have hmu23 : (V34 0 11).toNat < (V23 0 11).toNat := (by omega)
    exact ih23 V34 ⟨hI34, hB34, (pEC.endp (o := z33) hec (by omega) (by rw [hV34, hV31, hx30_0, ez27])), ⟨nf23, Nat.lt_of_lt_of_le hmu23 (Nat.le_of_lt_succ hn23), hF⟩⟩ hmu23
theorem dX12_lands_0 : decode cX12_lands 0 = .ok (.aload_n 0, 1) := by decide +kernel
theorem dX12_lands_1 : decode cX12_lands 1 = .ok (.invokevirtual 177, 3) := by decide +kernel
theorem dX12_lands_4 : decode cX12_lands 4 = .ok (.bipush 11, 2) := by decide +kernel
theorem dX12_lands_6 : decode cX12_lands 6 = .ok (.if_icmp .eq 16, 3) := by decide +kernel
theorem dX12_lands_9 : decode cX12_lands 9 = .ok (.iload_n 1, 1) := by decide +kernel
theorem dX12_lands_10 : decode cX12_lands 10 = .ok (.ifCond .eq 63, 3) := by decide +kernel
theorem dX12_lands_13 : decode cX12_lands 13 = .ok (.aload_n 0, 1) := by decide +kernel
theorem dX12_lands_14 : decode cX12_lands 14 = .ok (.invokevirtual 177, 3) := by decide +kernel
theorem dX12_lands_17 : decode cX12_lands 17 = .ok (.bipush 12, 2) := by decide +kernel
theorem dX12_lands_19 : decode cX12_lands 19 = .ok (.if_icmp .ne 54, 3) := by decide +kernel
theorem dX12_lands_22 : decode cX12_lands 22 = .ok (.aload_n 0, 1) := by decide +kernel
theorem dX12_lands_23 : decode cX12_lands 23 = .ok (.getfield 26, 3) := by decide +kernel
theorem dX12_lands_26 : decode cX12_lands 26 = .ok (.aload_n 0, 1) := by decide +kernel
theorem dX12_lands_27 : decode cX12_lands 27 = .ok (.getfield 174, 3) := by decide +kernel
theorem dX12_lands_30 : decode cX12_lands 30 = .ok (.iconst 1, 1) := by decide +kernel
theorem dX12_lands_31 : decode cX12_lands 31 = .ok (.isub, 1) := by decide +kernel
theorem dX12_lands_32 : decode cX12_lands 32 = .ok (.iaload, 1) := by decide +kernel
theorem dX12_lands_33 : decode cX12_lands 33 = .ok (.ldc 170, 2) := by decide +kernel
theorem dX12_lands_35 : decode cX12_lands 35 = .ok (.irem, 1) := by decide +kernel
theorem dX12_lands_36 : decode cX12_lands 36 = .ok (.istore_n 2, 1) := by decide +kernel
theorem dX12_lands_37 : decode cX12_lands 37 = .ok (.aload_n 0, 1) := by decide +kernel
theorem dX12_lands_38 : decode cX12_lands 38 = .ok (.getfield 23, 3) := by decide +kernel
theorem dX12_lands_41 : decode cX12_lands 41 = .ok (.iload_n 2, 1) := by decide +kernel
theorem dX12_lands_42 : decode cX12_lands 42 = .ok (.ldc 170, 2) := by decide +kernel
theorem dX12_lands_44 : decode cX12_lands 44 = .ok (.aload_n 0, 1) := by decide +kernel
theorem dX12_lands_45 : decode cX12_lands 45 = .ok (.getfield 23, 3) := by decide +kernel
theorem dX12_lands_48 : decode cX12_lands 48 = .ok (.iload_n 2, 1) := by decide +kernel
theorem dX12_lands_49 : decode cX12_lands 49 = .ok (.iaload, 1) := by decide +kernel
theorem dX12_lands_50 : decode cX12_lands 50 = .ok (.ldc 170, 2) := by decide +kernel
theorem dX12_lands_52 : decode cX12_lands 52 = .ok (.idiv, 1) := by decide +kernel
theorem dX12_lands_53 : decode cX12_lands 53 = .ok (.imul, 1) := by decide +kernel
theorem dX12_lands_54 : decode cX12_lands 54 = .ok (.aload_n 0, 1) := by decide +kernel
theorem dX12_lands_55 : decode cX12_lands 55 = .ok (.getfield 167, 3) := by decide +kernel
theorem dX12_lands_58 : decode cX12_lands 58 = .ok (.iadd, 1) := by decide +kernel
theorem dX12_lands_59 : decode cX12_lands 59 = .ok (.iastore, 1) := by decide +kernel
theorem dX12_lands_60 : decode cX12_lands 60 = .ok (.aload_n 0, 1) := by decide +kernel
theorem dX12_lands_61 : decode cX12_lands 61 = .ok (.aload_n 0, 1) := by decide +kernel
theorem dX12_lands_62 : decode cX12_lands 62 = .ok (.getfield 174, 3) := by decide +kernel
theorem dX12_lands_65 : decode cX12_lands 65 = .ok (.iconst 1, 1) := by decide +kernel
theorem dX12_lands_66 : decode cX12_lands 66 = .ok (.isub, 1) := by decide +kernel
theorem dX12_lands_67 : decode cX12_lands 67 = .ok (.putfield 174, 3) := by decide +kernel
theorem dX12_lands_70 : decode cX12_lands 70 = .ok (.goto (-70), 3) := by decide +kernel
theorem dX12_lands_73 : decode cX12_lands 73 = .ok (.return_, 1) := by decide +kernel
set_option maxRecDepth 100000 in
def f_m_lands (x1 : Int) (V : Nat → Nat → Int) (J : Nat → Nat → Int) (Rr : Nat → Nat → Nat) : (Nat → Nat → Int) → Prop :=
  lop1 ((V 0 11).toNat + 1) (fun rc47 (V47 : Nat → Nat → Int) => rdb (V47 0 5) fun z48 => fct (0 ≤ z48 ∧ z48 ≤ 220) <| rdb (V47 0 6) fun z49 => fct (0 ≤ z49 ∧ z49 ≤ 220) <| rdb (V47 0 10) fun z50 => fct (0 ≤ z50 ∧ z50 ≤ 220) <| rdb (V47 0 11) fun z51 => fct (0 ≤ z51 ∧ z51 ≤ 220) <| calR (f_m_waitTop V47 J Rr) fun z52 => (if z52 = 11 then rdb (V47 6 ((z51 - 1).toNat)) fun z54 => rdb (iRem z54 1048576) fun z55 => fct (-1048575 ≤ z55 ∧ z55 ≤ 1048575) <| rdb (V47 5 z55.toNat) fun z57 => rdb (iDiv z57 1048576) fun z58 => rdb (up2 V47 5 z55.toNat (1048576 * z58 + z50)) fun V59 => rdb (up2 V59 0 11 (z51 - 1)) fun V60 => rc47 V60 else (if x1 = 0 then rtn V47 else calR (f_m_waitTop V47 J Rr) fun z62 => (if ¬ z62 = 12 then rtn V47 else rdb (V47 6 ((z51 - 1).toNat)) fun z64 => rdb (iRem z64 1048576) fun z65 => fct (-1048575 ≤ z65 ∧ z65 ≤ 1048575) <| rdb (V47 5 z65.toNat) fun z67 => rdb (iDiv z67 1048576) fun z68 => rdb (up2 V47 5 z65.toNat (1048576 * z68 + z50)) fun V69 => rdb (up2 V69 0 11 (z51 - 1)) fun V70 => rc47 V70)))) V
set_option maxHeartbeats 8000000 in
set_option maxRecDepth 100000 in
theorem m_lands (l : Launch) (D : va_G) (cy : Nat → ClassId) (ad : Nat → Nat) (G : Nat → Nat → Int) (V J : Nat → Nat → Int) (Rr : Nat → Nat → Nat) (hI : MI G V) (hJ : VJ J) (hR : MR Rr) (x1 : Int) (bx1 : 0 ≤ x1 ∧ x1 ≤ 1) (f d : Int) (hC : CI f d 1 V) (hP : PG V) (h0 : 0 < V 0 11) : xMv l D (xTY cy) yX12_lands cX12_lands 3 none 1 20 0 0 [.ref (ad 0), vI x1] (MW cy ad V J Rr) (fun u : Nat → Nat → Int => MW cy ad u J Rr) (fun u : Nat → Nat → Int => MI G u ∧ pEC f d V u ∧ (x1 = 1 → ¬ pjm (ptop u)) ∧ FBm 590295810358705653760 V u ∧ (f_m_lands x1 V J Rr) u) := by
  refine xMv.mk (lv0 := [(0, .ref (ad 0)), (1, vI x1)]) (by decide) rfl (Nat.le_of_ble_eq_true rfl) (fun p e s m below meth c A C hr hnm hAe => ?_)
  have C : xC2 p s m _ meth c D A s.heap 3 cX12_lands RX12 (xTY cy) := C
  have hB : FBm 590295810358705653760 V V := FBm.rf _ _
  have hF := Imp.of_eq (f_m_lands.eq_def x1 V J Rr)
  obtain ⟨bd47, hbd47, hF⟩ := lop1_ex hF
  refine x_loop (I := fun V47 : (Nat → Nat → Int) => MI G V47 ∧ FBm 590295810358705653760 V V47 ∧ pEC f d V V47 ∧ (∃ nf : Nat, (V47 0 11).toNat < nf ∧ Imp (lop1 nf bd47 V47) (f_m_lands x1 V J Rr))) (μ := fun V47 : (Nat → Nat → Int) => (V47 0 11).toNat) (wsf := fun V47 : (Nat → Nat → Int) => MW cy ad V47 J Rr) (lvf := fun V47 : (Nat → Nat → Int) => [(0, .ref (ad 0)), (1, vI x1)]) (fun V47 hI47x ih47 => ?_) V ⟨hI, hB, (pEC.rf hC hP h0), ⟨_, (Nat.lt_succ_self _), hF⟩⟩ rfl rfl
  obtain ⟨hI47, hB47, hec, nf47, hn47, hF⟩ := hI47x
  try dsimp only
  obtain ⟨nf47, rfl⟩ : ∃ mm, nf47 = mm + 1 := ⟨nf47 - 1, (Nat.succ_pred_eq_of_pos (Nat.lt_of_le_of_lt (Nat.zero_le _) hn47)).symm⟩
  replace hF := hF.to (lop1_s hbd47)
  obtain ⟨z48, ez48, bz48⟩ := hI47.rd 0 5 (x := 0) (y := 220) rfl
  replace hF := hF.to (rdb_e (z := z48) ez48)
  replace hF := hF.fc bz48
  obtain ⟨z49, ez49, bz49⟩ := hI47.rd 0 6 (x := 0) (y := 220) rfl
  replace hF := hF.to (rdb_e (z := z49) ez49)
  replace hF := hF.fc bz49
  obtain ⟨z50, ez50, bz50⟩ := hI47.rd 0 10 (x := 0) (y := 220) rfl
  replace hF := hF.to (rdb_e (z := z50) ez50)
  replace hF := hF.fc bz50
  obtain ⟨z51, ez51, bz51⟩ := hI47.rd 0 11 (x := 0) (y := 220) rfl
  replace hF := hF.to (rdb_e (z := z51) ez51)
  replace hF := hF.fc bz51
  have hc2 := hec.1.1.c200 hec.1.2.1
  rw [ez48, ez50, ez51] at hc2
  have hpz := hec.1.2.1
  unfold PG at hpz
  rw [ez48, ez49, ez50, ez51] at hpz
  refine x_aload_n C.1 dX12_lands_0 0 rfl ?_
  refine x_callVi C (As := []) (rest := []) 0 (xw_at (N := 33) (i := 0) (by decide) rfl) vc_X12 (m_waitTop l D cy ad G V47 J Rr hI47 hJ hR ) (l1 := []) (l2 := []) (List.append_nil _).symm (w2 := fun _ => MW cy ad V47 J Rr) (fun _ => List.append_nil _) rfl wm_yX12_waitTop wn_X12 wl_X12_177 wi_yX12_waitTop we_yX12_waitTop hd_yX12_waitTop rfl ⟨Nat.le_of_ble_eq_true rfl, Nat.le_of_ble_eq_true rfl⟩ (Nat.le_of_ble_eq_true rfl) ⟨Nat.le_of_ble_eq_true rfl, Nat.le_of_ble_eq_true rfl⟩ dX12_lands_1 (fun z52 u52 bz52 h52 => ?_)
  obtain ⟨hx52_0, hFc52⟩ := h52
  replace hF := calR_i hF hFc52
  refine x_bipush C.1 (n := 11) dX12_lands_4 ?_
  refine x_icmp_eq C.1 (tgt := 22) dX12_lands_6 (by decide) (by omega) (by decide) (fun hc53 => ?_) (fun hc53 => ?_)
  · replace hF := hF.to (if_pos hc53)
    have hm0 := (ptop_n (V := V47) (by omega)).1
    rw [ez51] at hm0
    refine x_aload_n C.1 dX12_lands_22 0 rfl ?_
    refine x_getA C (N := 33) (i := 0) (by decide) rfl vc_X12 wx_X12 14 (by decide) wf_X12_26 (a := 6) rfl dX12_lands_23 ?_
    refine x_aload_n C.1 dX12_lands_26 0 rfl ?_
    refine x_getI C (N := 33) (i := 0) (by decide) rfl vc_X12 wx_X12 11 (by decide) wf_X12_174 rfl dX12_lands_27 (a := z51) ez51 ?_
    refine x_iconst C.1 (n := 1) dX12_lands_30 ?_
    refine x_isub C.1 (v := z51 - 1) (by omega) dX12_lands_31 ?_
    obtain ⟨z54, ez54, bz54⟩ := hI47.rd 6 ((z51 - 1).toNat) (x := -2147483648) (y := 2147483647) rfl
    replace hF := hF.to (rdb_e (z := z54) ez54)
    refine x_iald C (N := 33) (i := 6) (q := z51 - 1) (by decide) rfl (by omega) (by decide) dX12_lands_32 (a := z54) ez54 ?_
    refine x_ldc C.1 (n := 1048576) wq_X12_170 dX12_lands_33 ?_
    obtain ⟨z55, hz55, bz55⟩ : ∃ z : Int, iRem z54 1048576 = z ∧ (-1048575 ≤ z ∧ z ≤ 1048575) := ⟨_, rfl, iRem_m (by omega) (by omega)⟩
    replace hF := hF.to (rdb_e (z := z55) hz55)
    replace hF := hF.fc bz55
    refine x_irem C.1 (v := z55) hz55 dX12_lands_35 (by decide) (by decide) ?_
    have hpf : prm (V47 6 (V47 0 11 - 1).toNat) = z55 := by unfold prm; rw [ez51, ez54]; exact hz55
    have hj := hec.1.1.jq hec.1.2.2.2 (by unfold pjm; omega)
    rw [hpf] at hj
    obtain ⟨hj1, hj2, hj3⟩ := hj
    rw [ez50] at hj2
    have hfl := hec.1.1.fl.1
    have hzn : 0 ≤ z55 ∧ z55 ≤ 219 := ⟨Int.le_trans hfl hj1, Int.le_of_lt (Int.lt_of_lt_of_le hj2 (Int.le_trans hc2.1 (by decide)))⟩
    clear bz55 hj1 hj2 hfl
    refine x_istore_n C.1 (lv' := [(2, vI z55), (0, .ref (ad 0)), (1, vI x1)]) dX12_lands_36 (by decide) rfl ?_
    refine x_aload_n C.1 dX12_lands_37 1 rfl ?_
    refine x_getA C (N := 33) (i := 0) (by decide) rfl vc_X12 wx_X12 13 (by decide) wf_X12_23 (a := 5) rfl dX12_lands_38 ?_
    refine x_iload_n C.1 dX12_lands_41 0 rfl ?_
    refine x_ldc C.1 (n := 1048576) wq_X12_170 dX12_lands_42 ?_
    refine x_aload_n C.1 dX12_lands_44 1 rfl ?_
    refine x_getA C (N := 33) (i := 0) (by decide) rfl vc_X12 wx_X12 13 (by decide) wf_X12_23 (a := 5) rfl dX12_lands_45 ?_
    refine x_iload_n C.1 dX12_lands_48 0 rfl ?_
    obtain ⟨z57, ez57, bz57⟩ := hI47.rd 5 z55.toNat (x := -2147483648) (y := 2147483647) rfl
    replace hF := hF.to (rdb_e (z := z57) ez57)
    refine x_iald C (N := 33) (i := 5) (q := z55) (by decide) rfl ⟨hzn.1, Int.lt_of_le_of_lt hzn.2 (by decide)⟩ (by decide) dX12_lands_49 (a := z57) ez57 ?_
    refine x_ldc C.1 (n := 1048576) wq_X12_170 dX12_lands_50 ?_
    obtain ⟨z58, hz58, bz58⟩ : ∃ z : Int, iDiv z57 1048576 = z ∧ (-2147483648 ≤ z ∧ z ≤ 2147483647) := ⟨_, rfl, xi_r _⟩
    replace hF := hF.to (rdb_e (z := z58) hz58)
    refine x_idiv C.1 (v := z58) hz58 dX12_lands_52 (by decide) (by decide) ?_
    rw [ez57] at hj3
    obtain ⟨hde, hdb⟩ := hj3.d bz57.2 hz58
    clear bz58 bz57
    refine x_imul C.1 (v := 1048576 * z58) (by omega) dX12_lands_53 ?_
    refine x_aload_n C.1 dX12_lands_54 1 rfl ?_
    refine x_getI C (N := 33) (i := 0) (by decide) rfl vc_X12 wx_X12 10 (by decide) wf_X12_167 rfl dX12_lands_55 (a := z50) ez50 ?_
    refine x_iadd C.1 (v := 1048576 * z58 + z50) (by omega) dX12_lands_58 ?_
    refine x_iast C (N := 33) (i := 5) (q := z55) (a := 1048576 * z58 + z50) (by decide) rfl ⟨hzn.1, Int.lt_of_le_of_lt hzn.2 (by decide)⟩ (by decide) dX12_lands_59 ?_
    refine x_gV ?_
    intro V59 hV59
    have hI59 : MI G V59 := hI47.up hV59 rfl (by omega) rfl (Or.inl (by decide))
    have hB59 := hB47.up hV59 (by rw [mkey_r (by decide)]; rfl)
    replace hF := hF.to (rdb_e (z := V59) hV59.symm)
    refine x_aload_n C.1 dX12_lands_60 1 rfl ?_
    refine x_aload_n C.1 dX12_lands_61 1 rfl ?_
    refine x_getI C (N := 33) (i := 0) (by decide) rfl vc_X12 wx_X12 11 (by decide) wf_X12_174 rfl dX12_lands_62 (a := z51) ((congrFun (congrFun hV59 0) 11).trans ((up2_n _ _ (Or.inl (by decide))).trans ez51)) ?_
    refine x_iconst C.1 (n := 1) dX12_lands_65 ?_
    refine x_isub C.1 (v := z51 - 1) (by omega) dX12_lands_66 ?_
    refine x_putI C (N := 33) (i := 0) (by decide) rfl vc_X12 wx_X12 11 (by decide) wf_X12_174 tyX12 tyX12_ok nmX12 rfl (tyX12_ok 11 (by decide)) rfl dX12_lands_67 rfl rfl ?_
    refine x_gV ?_
    intro V60 hV60
    have hI60 : MI G V60 := hI59.up hV60 rfl (by omega) rfl (Or.inl (by decide))
    have hB60 := hB59.up hV60 rfl
    replace hF := hF.to (rdb_e (z := V60) hV60.symm)
    refine x_goto C.1 (tgt := 0) dX12_lands_70 (by decide) ?_
    refine x_lv [(0, .ref (ad 0)), (1, vI x1)] [1, 2] rfl ?_
    have hm1 := ((congrFun (congrFun hV60 0) 11).trans (up2_s _ _ _ _))
    have hm2 := ez51
    have hmu47 : (V60 0 11).toNat < (V47 0 11).toNat := (by omega)
    exact ih47 V60 ⟨hI60, hB60, (pEC.lnd (q := z55.toNat) (wd := 1048576 * z58 + z50) hec (by unfold pjm; omega) (by rw [Int.toNat_of_nonneg hzn.1]; exact hpf.symm) (by unfold pdq at hde; rw [ez57, ez50, hde]) (by rw [hV60, hV59, ez51])), ⟨nf47, Nat.lt_of_lt_of_le hmu47 (Nat.le_of_lt_succ hn47), hF⟩⟩ hmu47
  · replace hF := hF.to (if_neg hc53)
    refine x_iload_n C.1 dX12_lands_9 1 rfl ?_
    refine x_if_eq C.1 (tgt := 73) dX12_lands_10 (by decide) (by omega) (fun hc61 => ?_) (fun hc61 => ?_)
    · replace hF := hF.to (if_pos hc61)
      exact x_vret (S := (Nat → Nat → Int)) (post := (fun u : Nat → Nat → Int => MI G u ∧ pEC f d V u ∧ (x1 = 1 → ¬ pjm (ptop u)) ∧ FBm 590295810358705653760 V u ∧ (f_m_lands x1 V J Rr) u)) (w1 := (fun u : Nat → Nat → Int => MW cy ad u J Rr)) C hr rfl dX12_lands_73 V47 rfl ⟨hI47, hec, (fun h1 => by unfold pjm; omega), hB47, hF _ rfl⟩
    · replace hF := hF.to (if_neg hc61)
      refine x_aload_n C.1 dX12_lands_13 0 rfl ?_
      refine x_callVi C (As := []) (rest := []) 0 (xw_at (N := 33) (i := 0) (by decide) rfl) vc_X12 (m_waitTop l D cy ad G V47 J Rr hI47 hJ hR ) (l1 := []) (l2 := []) (List.append_nil _).symm (w2 := fun _ => MW cy ad V47 J Rr) (fun _ => List.append_nil _) rfl wm_yX12_waitTop wn_X12 wl_X12_177 wi_yX12_waitTop we_yX12_waitTop hd_yX12_waitTop rfl ⟨Nat.le_of_ble_eq_true rfl, Nat.le_of_ble_eq_true rfl⟩ (Nat.le_of_ble_eq_true rfl) ⟨Nat.le_of_ble_eq_true rfl, Nat.le_of_ble_eq_true rfl⟩ dX12_lands_14 (fun z62 u62 bz62 h62 => ?_)
      obtain ⟨hx62_0, hFc62⟩ := h62
      replace hF := calR_i hF hFc62
      refine x_bipush C.1 (n := 12) dX12_lands_17 ?_
      refine x_icmp_ne C.1 (tgt := 73) dX12_lands_19 (by decide) (by omega) (by decide) (fun hc63 => ?_) (fun hc63 => ?_)
      · replace hF := hF.to (if_pos hc63)
        exact x_vret (S := (Nat → Nat → Int)) (post := (fun u : Nat → Nat → Int => MI G u ∧ pEC f d V u ∧ (x1 = 1 → ¬ pjm (ptop u)) ∧ FBm 590295810358705653760 V u ∧ (f_m_lands x1 V J Rr) u)) (w1 := (fun u : Nat → Nat → Int => MW cy ad u J Rr)) C hr rfl dX12_lands_73 V47 rfl ⟨hI47, hec, (fun h1 => by unfold pjm; omega), hB47, hF _ rfl⟩
      · replace hF := hF.to (if_neg (fun hh => hh hc63))
        have hm0 := (ptop_n (V := V47) (by omega)).1
        rw [ez51] at hm0
        refine x_aload_n C.1 dX12_lands_22 0 rfl ?_
        refine x_getA C (N := 33) (i := 0) (by decide) rfl vc_X12 wx_X12 14 (by decide) wf_X12_26 (a := 6) rfl dX12_lands_23 ?_
        refine x_aload_n C.1 dX12_lands_26 0 rfl ?_
        refine x_getI C (N := 33) (i := 0) (by decide) rfl vc_X12 wx_X12 11 (by decide) wf_X12_174 rfl dX12_lands_27 (a := z51) ez51 ?_
        refine x_iconst C.1 (n := 1) dX12_lands_30 ?_
        refine x_isub C.1 (v := z51 - 1) (by omega) dX12_lands_31 ?_
        obtain ⟨z64, ez64, bz64⟩ := hI47.rd 6 ((z51 - 1).toNat) (x := -2147483648) (y := 2147483647) rfl
        replace hF := hF.to (rdb_e (z := z64) ez64)
        refine x_iald C (N := 33) (i := 6) (q := z51 - 1) (by decide) rfl (by omega) (by decide) dX12_lands_32 (a := z64) ez64 ?_
        refine x_ldc C.1 (n := 1048576) wq_X12_170 dX12_lands_33 ?_
        obtain ⟨z65, hz65, bz65⟩ : ∃ z : Int, iRem z64 1048576 = z ∧ (-1048575 ≤ z ∧ z ≤ 1048575) := ⟨_, rfl, iRem_m (by omega) (by omega)⟩
        replace hF := hF.to (rdb_e (z := z65) hz65)
        replace hF := hF.fc bz65
        refine x_irem C.1 (v := z65) hz65 dX12_lands_35 (by decide) (by decide) ?_
        have hpf : prm (V47 6 (V47 0 11 - 1).toNat) = z65 := by unfold prm; rw [ez51, ez64]; exact hz65
        have hj := hec.1.1.jq hec.1.2.2.2 (by unfold pjm; omega)
        rw [hpf] at hj
        obtain ⟨hj1, hj2, hj3⟩ := hj
        rw [ez50] at hj2
        have hfl := hec.1.1.fl.1
        have hzn : 0 ≤ z65 ∧ z65 ≤ 219 := ⟨Int.le_trans hfl hj1, Int.le_of_lt (Int.lt_of_lt_of_le hj2 (Int.le_trans hc2.1 (by decide)))⟩
        clear bz65 hj1 hj2 hfl
        refine x_istore_n C.1 (lv' := [(2, vI z65), (0, .ref (ad 0)), (1, vI x1)]) dX12_lands_36 (by decide) rfl ?_
        refine x_aload_n C.1 dX12_lands_37 1 rfl ?_
        refine x_getA C (N := 33) (i := 0) (by decide) rfl vc_X12 wx_X12 13 (by decide) wf_X12_23 (a := 5) rfl dX12_lands_38 ?_
        refine x_iload_n C.1 dX12_lands_41 0 rfl ?_
        refine x_ldc C.1 (n := 1048576) wq_X12_170 dX12_lands_42 ?_
        refine x_aload_n C.1 dX12_lands_44 1 rfl ?_
        refine x_getA C (N := 33) (i := 0) (by decide) rfl vc_X12 wx_X12 13 (by decide) wf_X12_23 (a := 5) rfl dX12_lands_45 ?_
        refine x_iload_n C.1 dX12_lands_48 0 rfl ?_
        obtain ⟨z67, ez67, bz67⟩ := hI47.rd 5 z65.toNat (x := -2147483648) (y := 2147483647) rfl
        replace hF := hF.to (rdb_e (z := z67) ez67)
        refine x_iald C (N := 33) (i := 5) (q := z65) (by decide) rfl ⟨hzn.1, Int.lt_of_le_of_lt hzn.2 (by decide)⟩ (by decide) dX12_lands_49 (a := z67) ez67 ?_
        refine x_ldc C.1 (n := 1048576) wq_X12_170 dX12_lands_50 ?_
        obtain ⟨z68, hz68, bz68⟩ : ∃ z : Int, iDiv z67 1048576 = z ∧ (-2147483648 ≤ z ∧ z ≤ 2147483647) := ⟨_, rfl, xi_r _⟩
        replace hF := hF.to (rdb_e (z := z68) hz68)
        refine x_idiv C.1 (v := z68) hz68 dX12_lands_52 (by decide) (by decide) ?_
        rw [ez67] at hj3
        obtain ⟨hde, hdb⟩ := hj3.d bz67.2 hz68
        clear bz68 bz67
        refine x_imul C.1 (v := 1048576 * z68) (by omega) dX12_lands_53 ?_
        refine x_aload_n C.1 dX12_lands_54 1 rfl ?_
        refine x_getI C (N := 33) (i := 0) (by decide) rfl vc_X12 wx_X12 10 (by decide) wf_X12_167 rfl dX12_lands_55 (a := z50) ez50 ?_
        refine x_iadd C.1 (v := 1048576 * z68 + z50) (by omega) dX12_lands_58 ?_
        refine x_iast C (N := 33) (i := 5) (q := z65) (a := 1048576 * z68 + z50) (by decide) rfl ⟨hzn.1, Int.lt_of_le_of_lt hzn.2 (by decide)⟩ (by decide) dX12_lands_59 ?_
        refine x_gV ?_
        intro V69 hV69
        have hI69 : MI G V69 := hI47.up hV69 rfl (by omega) rfl (Or.inl (by decide))
        have hB69 := hB47.up hV69 (by rw [mkey_r (by decide)]; rfl)
        replace hF := hF.to (rdb_e (z := V69) hV69.symm)
        refine x_aload_n C.1 dX12_lands_60 1 rfl ?_
        refine x_aload_n C.1 dX12_lands_61 1 rfl ?_
        refine x_getI C (N := 33) (i := 0) (by decide) rfl vc_X12 wx_X12 11 (by decide) wf_X12_174 rfl dX12_lands_62 (a := z51) ((congrFun (congrFun hV69 0) 11).trans ((up2_n _ _ (Or.inl (by decide))).trans ez51)) ?_
        refine x_iconst C.1 (n := 1) dX12_lands_65 ?_
        refine x_isub C.1 (v := z51 - 1) (by omega) dX12_lands_66 ?_
        refine x_putI C (N := 33) (i := 0) (by decide) rfl vc_X12 wx_X12 11 (by decide) wf_X12_174 tyX12 tyX12_ok nmX12 rfl (tyX12_ok 11 (by decide)) rfl dX12_lands_67 rfl rfl ?_
        refine x_gV ?_
        intro V70 hV70
        have hI70 : MI G V70 := hI69.up hV70 rfl (by omega) rfl (Or.inl (by decide))
        have hB70 := hB69.up hV70 rfl
        replace hF := hF.to (rdb_e (z := V70) hV70.symm)
        refine x_goto C.1 (tgt := 0) dX12_lands_70 (by decide) ?_
        refine x_lv [(0, .ref (ad 0)), (1, vI x1)] [1, 2] rfl ?_
        have hm1 := ((congrFun (congrFun hV70 0) 11).trans (up2_s _ _ _ _))
        have hm2 := ez51
        have hmu47 : (V70 0 11).toNat < (V47 0 11).toNat := (by omega)
        exact ih47 V70 ⟨hI70, hB70, (pEC.lnd (q := z65.toNat) (wd := 1048576 * z68 + z50) hec (by unfold pjm; omega) (by rw [Int.toNat_of_nonneg hzn.1]; exact hpf.symm) (by unfold pdq at hde; rw [ez67, ez50, hde]) (by rw [hV70, hV69, ez51])), ⟨nf47, Nat.lt_of_lt_of_le hmu47 (Nat.le_of_lt_succ hn47), hF⟩⟩ hmu47
theorem dX12_jumps_0 : decode cX12_jumps 0 = .ok (.aload_n 0, 1) := by decide +kernel
theorem dX12_jumps_1 : decode cX12_jumps 1 = .ok (.getfield 26, 3) := by decide +kernel
theorem dX12_jumps_4 : decode cX12_jumps 4 = .ok (.aload_n 0, 1) := by decide +kernel
theorem dX12_jumps_5 : decode cX12_jumps 5 = .ok (.getfield 174, 3) := by decide +kernel
theorem dX12_jumps_8 : decode cX12_jumps 8 = .ok (.ldc 170, 2) := by decide +kernel
theorem dX12_jumps_10 : decode cX12_jumps 10 = .ok (.iload_n 1, 1) := by decide +kernel
theorem dX12_jumps_11 : decode cX12_jumps 11 = .ok (.imul, 1) := by decide +kernel
theorem dX12_jumps_12 : decode cX12_jumps 12 = .ok (.aload_n 0, 1) := by decide +kernel
theorem dX12_jumps_13 : decode cX12_jumps 13 = .ok (.getfield 167, 3) := by decide +kernel
theorem dX12_jumps_16 : decode cX12_jumps 16 = .ok (.iadd, 1) := by decide +kernel
theorem dX12_jumps_17 : decode cX12_jumps 17 = .ok (.iastore, 1) := by decide +kernel
theorem dX12_jumps_18 : decode cX12_jumps 18 = .ok (.aload_n 0, 1) := by decide +kernel
theorem dX12_jumps_19 : decode cX12_jumps 19 = .ok (.aload_n 0, 1) := by decide +kernel
theorem dX12_jumps_20 : decode cX12_jumps 20 = .ok (.getfield 174, 3) := by decide +kernel
theorem dX12_jumps_23 : decode cX12_jumps 23 = .ok (.iconst 1, 1) := by decide +kernel
theorem dX12_jumps_24 : decode cX12_jumps 24 = .ok (.iadd, 1) := by decide +kernel
theorem dX12_jumps_25 : decode cX12_jumps 25 = .ok (.putfield 174, 3) := by decide +kernel
theorem dX12_jumps_28 : decode cX12_jumps 28 = .ok (.aload_n 0, 1) := by decide +kernel
theorem dX12_jumps_29 : decode cX12_jumps 29 = .ok (.iload_n 1, 1) := by decide +kernel
theorem dX12_jumps_30 : decode cX12_jumps 30 = .ok (.iconst 0, 1) := by decide +kernel
theorem dX12_jumps_31 : decode cX12_jumps 31 = .ok (.invokevirtual 180, 3) := by decide +kernel
theorem dX12_jumps_34 : decode cX12_jumps 34 = .ok (.aload_n 0, 1) := by decide +kernel
theorem dX12_jumps_35 : decode cX12_jumps 35 = .ok (.aload_n 0, 1) := by decide +kernel
theorem dX12_jumps_36 : decode cX12_jumps 36 = .ok (.getfield 144, 3) := by decide +kernel
theorem dX12_jumps_39 : decode cX12_jumps 39 = .ok (.iconst 1, 1) := by decide +kernel
theorem dX12_jumps_40 : decode cX12_jumps 40 = .ok (.iadd, 1) := by decide +kernel
theorem dX12_jumps_41 : decode cX12_jumps 41 = .ok (.putfield 144, 3) := by decide +kernel
theorem dX12_jumps_44 : decode cX12_jumps 44 = .ok (.return_, 1) := by decide +kernel
set_option maxRecDepth 100000 in
def f_m_jumps (x1 : Int) (V : Nat → Nat → Int) (J : Nat → Nat → Int) (Rr : Nat → Nat → Nat) : (Nat → Nat → Int) → Prop :=
  rdb (V 0 5) fun z1 => fct (0 ≤ z1 ∧ z1 ≤ 220) <| rdb (V 0 6) fun z2 => fct (0 ≤ z2 ∧ z2 ≤ 220) <| rdb (V 0 10) fun z3 => fct (0 ≤ z3 ∧ z3 ≤ 220) <| rdb (V 0 11) fun z4 => fct (0 ≤ z4 ∧ z4 ≤ 220) <| rdb (up2 V 6 z4.toNat (1048576 * x1 + z3)) fun V5 => rdb (up2 V5 0 11 (z4 + 1)) fun V6 => calUM 590295810358705652736 V6 (f_m_notes x1 0 V6 J Rr) fun V7 => rdb (up2 V7 0 5 (z1 + 1)) fun V8 => rtn V8
set_option maxHeartbeats 8000000 in
set_option maxRecDepth 100000 in
theorem m_jumps (l : Launch) (D : va_G) (cy : Nat → ClassId) (ad : Nat → Nat) (G : Nat → Nat → Int) (V J : Nat → Nat → Int) (Rr : Nat → Nat → Nat) (hI : MI G V) (hJ : VJ J) (hR : MR Rr) (x1 : Int) (bx1 : 11 ≤ x1 ∧ x1 ≤ 12) (f d : Int) (hC : CI f d 1 V) (hP : PG V) (h0 : 0 < V 0 11) (hpl : V 0 5 < V 0 6) : xMv l D (xTY cy) yX12_jumps cX12_jumps 2 none 1 22 0 0 [.ref (ad 0), vI x1] (MW cy ad V J Rr) (fun u : Nat → Nat → Int => MW cy ad u J Rr) (fun u : Nat → Nat → Int => MI G u ∧ (pQ f d 0 V u ∧ V 0 5 < u 0 5) ∧ FBm 1770887431076116958240 V u ∧ (f_m_jumps x1 V J Rr) u) := by
  refine xMv.mk (lv0 := [(0, .ref (ad 0)), (1, vI x1)]) (by decide) rfl (Nat.le_of_ble_eq_true rfl) (fun p e s m below meth c A C hr hnm hAe => ?_)
  have C : xC2 p s m _ meth c D A s.heap 2 cX12_jumps RX12 (xTY cy) := C
  have hB : FBm 1770887431076116958240 V V := FBm.rf _ _
  have hF := Imp.of_eq (f_m_jumps.eq_def x1 V J Rr)
  obtain ⟨z1, ez1, bz1⟩ := hI.rd 0 5 (x := 0) (y := 220) rfl
  replace hF := hF.to (rdb_e (z := z1) ez1)
  replace hF := hF.fc bz1
  obtain ⟨z2, ez2, bz2⟩ := hI.rd 0 6 (x := 0) (y := 220) rfl
  replace hF := hF.to (rdb_e (z := z2) ez2)
  replace hF := hF.fc bz2
  obtain ⟨z3, ez3, bz3⟩ := hI.rd 0 10 (x := 0) (y := 220) rfl
  replace hF := hF.to (rdb_e (z := z3) ez3)
  replace hF := hF.fc bz3
  obtain ⟨z4, ez4, bz4⟩ := hI.rd 0 11 (x := 0) (y := 220) rfl
  replace hF := hF.to (rdb_e (z := z4) ez4)
  replace hF := hF.fc bz4
  have hc2 := hC.c200 hP
  rw [ez1, ez3, ez4] at hc2
  have hpz := hP
  unfold PG at hpz
  rw [ez1, ez2, ez3, ez4] at hpz
  rw [ez1, ez2] at hpl
  refine x_aload_n C.1 dX12_jumps_0 0 rfl ?_
  refine x_getA C (N := 33) (i := 0) (by decide) rfl vc_X12 wx_X12 14 (by decide) wf_X12_26 (a := 6) rfl dX12_jumps_1 ?_
  refine x_aload_n C.1 dX12_jumps_4 0 rfl ?_
  refine x_getI C (N := 33) (i := 0) (by decide) rfl vc_X12 wx_X12 11 (by decide) wf_X12_174 rfl dX12_jumps_5 (a := z4) ez4 ?_
  refine x_ldc C.1 (n := 1048576) wq_X12_170 dX12_jumps_8 ?_
  refine x_iload_n C.1 dX12_jumps_10 1 rfl ?_
  refine x_imul C.1 (v := 1048576 * x1) (by omega) dX12_jumps_11 ?_
  refine x_aload_n C.1 dX12_jumps_12 0 rfl ?_
  refine x_getI C (N := 33) (i := 0) (by decide) rfl vc_X12 wx_X12 10 (by decide) wf_X12_167 rfl dX12_jumps_13 (a := z3) ez3 ?_
  refine x_iadd C.1 (v := 1048576 * x1 + z3) (by omega) dX12_jumps_16 ?_
  refine x_iast C (N := 33) (i := 6) (q := z4) (a := 1048576 * x1 + z3) (by decide) rfl (by omega) (by decide) dX12_jumps_17 ?_
  refine x_gV ?_
  intro V5 hV5
  have hI5 : MI G V5 := hI.up hV5 rfl (by omega) rfl (Or.inl (by decide))
  have hB5 := hB.up hV5 (by rw [mkey_r (by decide)]; rfl)
  replace hF := hF.to (rdb_e (z := V5) hV5.symm)
  refine x_aload_n C.1 dX12_jumps_18 0 rfl ?_
  refine x_aload_n C.1 dX12_jumps_19 0 rfl ?_
  refine x_getI C (N := 33) (i := 0) (by decide) rfl vc_X12 wx_X12 11 (by decide) wf_X12_174 rfl dX12_jumps_20 (a := z4) ((congrFun (congrFun hV5 0) 11).trans ((up2_n _ _ (Or.inl (by decide))).trans ez4)) ?_
  refine x_iconst C.1 (n := 1) dX12_jumps_23 ?_
  refine x_iadd C.1 (v := z4 + 1) (by omega) dX12_jumps_24 ?_
  refine x_putI C (N := 33) (i := 0) (by decide) rfl vc_X12 wx_X12 11 (by decide) wf_X12_174 tyX12 tyX12_ok nmX12 rfl (tyX12_ok 11 (by decide)) rfl dX12_jumps_25 rfl rfl ?_
  refine x_gV ?_
  intro V6 hV6
  have hI6 : MI G V6 := hI5.up hV6 rfl (by omega) rfl (Or.inl (by decide))
  have hB6 := hB5.up hV6 rfl
  replace hF := hF.to (rdb_e (z := V6) hV6.symm)
  refine x_aload_n C.1 dX12_jumps_28 0 rfl ?_
  refine x_iload_n C.1 dX12_jumps_29 1 rfl ?_
  refine x_iconst C.1 (n := 0) dX12_jumps_30 ?_
  refine x_callVv C (As := [vI x1, vI 0]) (rest := []) 0 (xw_at (N := 33) (i := 0) (by decide) rfl) vc_X12 (m_notes l D cy ad G V6 J Rr hI6 hJ hR x1 ⟨by omega, by omega⟩ 0 ⟨by decide, by decide⟩ (by rw [((congrFun (congrFun hV6 0) 10).trans ((up2_n _ _ (Or.inr (by decide))).trans ((congrFun (congrFun hV5 0) 10).trans ((up2_n _ _ (Or.inl (by decide))).trans ez3))))]; omega)) (l1 := []) (l2 := []) (List.append_nil _).symm (w2 := fun u : Nat → Nat → Int => MW cy ad u J Rr) (fun _ => List.append_nil _) rfl wm_yX12_notes wn_X12 wl_X12_180 wi_yX12_notes we_yX12_notes hd_yX12_notes rfl ⟨Nat.le_of_ble_eq_true rfl, Nat.le_of_ble_eq_true rfl⟩ (Nat.le_of_ble_eq_true rfl) ⟨Nat.le_of_ble_eq_true rfl, Nat.le_of_ble_eq_true rfl⟩ dX12_jumps_31 (fun V7 h7 => ?_)
  obtain ⟨hI7, hx7_0, hBc7, hFc7⟩ := h7
  replace hF := calUM_i hF hFc7 hBc7
  have hB7 := hB6.tr hBc7 (m := 590295810358705652736) rfl
  refine x_aload_n C.1 dX12_jumps_34 0 rfl ?_
  refine x_aload_n C.1 dX12_jumps_35 0 rfl ?_
  refine x_getI C (N := 33) (i := 0) (by decide) rfl vc_X12 wx_X12 5 (by decide) wf_X12_144 rfl dX12_jumps_36 (a := z1) ((congrFun (congrFun hx7_0 0) (5)).trans ((up2_n _ _ (Or.inr (by decide))).trans ((up2_n _ _ (Or.inl (by decide))).trans ((congrFun (congrFun hV6 0) 5).trans ((up2_n _ _ (Or.inr (by decide))).trans ((congrFun (congrFun hV5 0) 5).trans ((up2_n _ _ (Or.inl (by decide))).trans ez1))))))) ?_
  refine x_iconst C.1 (n := 1) dX12_jumps_39 ?_
  refine x_iadd C.1 (v := z1 + 1) (by omega) dX12_jumps_40 ?_
  refine x_putI C (N := 33) (i := 0) (by decide) rfl vc_X12 wx_X12 5 (by decide) wf_X12_144 tyX12 tyX12_ok nmX12 rfl (tyX12_ok 5 (by decide)) rfl dX12_jumps_41 rfl rfl ?_
  refine x_gV ?_
  intro V8 hV8
  have hI8 : MI G V8 := hI7.up hV8 rfl (by omega) rfl (Or.inl (by decide))
  have hB8 := hB7.up hV8 rfl
  replace hF := hF.to (rdb_e (z := V8) hV8.symm)
  exact x_vret (S := (Nat → Nat → Int)) (post := (fun u : Nat → Nat → Int => MI G u ∧ (pQ f d 0 V u ∧ V 0 5 < u 0 5) ∧ FBm 1770887431076116958240 V u ∧ (f_m_jumps x1 V J Rr) u)) (w1 := (fun u : Nat → Nat → Int => MW cy ad u J Rr)) C hr rfl dX12_jumps_44 V8 rfl ⟨hI8, (jmpC (op := x1) hC hP h0 (by rw [ez1, ez2]; omega) (by unfold pjm; omega) (by rw [hV8, hx7_0, ((congrFun (congrFun hV6 0) 10).trans ((up2_n _ _ (Or.inr (by decide))).trans ((congrFun (congrFun hV5 0) 10).trans ((up2_n _ _ (Or.inl (by decide))).trans ez3)))), hV6, hV5, ez4, ez3, ez1])), hB8, hF _ rfl⟩
