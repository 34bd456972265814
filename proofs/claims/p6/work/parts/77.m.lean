theorem hd_yX12_factOf : yX12_factOf.cls ≠ "java/lang/invoke/MethodHandle" ∧ yX12_factOf.cls ≠ "java/lang/invoke/VarHandle" ∧ (parseMethodDescriptor yX12_factOf.desc).map (fun d => d.parameters.length) = some 1 := by decide +kernel
theorem hd_yX12_opens : yX12_opens.cls ≠ "java/lang/invoke/MethodHandle" ∧ yX12_opens.cls ≠ "java/lang/invoke/VarHandle" ∧ (parseMethodDescriptor yX12_opens.desc).map (fun d => d.parameters.length) = some 1 := by decide +kernel
theorem hd_yX12_readsNumber : yX12_readsNumber.cls ≠ "java/lang/invoke/MethodHandle" ∧ yX12_readsNumber.cls ≠ "java/lang/invoke/VarHandle" ∧ (parseMethodDescriptor yX12_readsNumber.desc).map (fun d => d.parameters.length) = some 0 := by decide +kernel
theorem dX12_readsFactor_0 : decode cX12_readsFactor 0 = .ok (.aload_n 0, 1) := by decide +kernel
theorem dX12_readsFactor_1 : decode cX12_readsFactor 1 = .ok (.invokevirtual 150, 3) := by decide +kernel
theorem dX12_readsFactor_4 : decode cX12_readsFactor 4 = .ok (.bipush 91, 2) := by decide +kernel
theorem dX12_readsFactor_6 : decode cX12_readsFactor 6 = .ok (.if_icmp .ne 14, 3) := by decide +kernel
theorem dX12_readsFactor_9 : decode cX12_readsFactor 9 = .ok (.aload_n 0, 1) := by decide +kernel
theorem dX12_readsFactor_10 : decode cX12_readsFactor 10 = .ok (.bipush 14, 2) := by decide +kernel
theorem dX12_readsFactor_12 : decode cX12_readsFactor 12 = .ok (.invokevirtual 184, 3) := by decide +kernel
theorem dX12_readsFactor_15 : decode cX12_readsFactor 15 = .ok (.ifCond .ne (-15), 3) := by decide +kernel
theorem dX12_readsFactor_18 : decode cX12_readsFactor 18 = .ok (.iconst 0, 1) := by decide +kernel
theorem dX12_readsFactor_19 : decode cX12_readsFactor 19 = .ok (.ireturn, 1) := by decide +kernel
theorem dX12_readsFactor_20 : decode cX12_readsFactor 20 = .ok (.aload_n 0, 1) := by decide +kernel
theorem dX12_readsFactor_21 : decode cX12_readsFactor 21 = .ok (.invokevirtual 163, 3) := by decide +kernel
theorem dX12_readsFactor_24 : decode cX12_readsFactor 24 = .ok (.ifCond .eq 23, 3) := by decide +kernel
theorem dX12_readsFactor_27 : decode cX12_readsFactor 27 = .ok (.aload_n 0, 1) := by decide +kernel
theorem dX12_readsFactor_28 : decode cX12_readsFactor 28 = .ok (.invokevirtual 187, 3) := by decide +kernel
theorem dX12_readsFactor_31 : decode cX12_readsFactor 31 = .ok (.ifCond .ne 5, 3) := by decide +kernel
theorem dX12_readsFactor_34 : decode cX12_readsFactor 34 = .ok (.iconst 0, 1) := by decide +kernel
theorem dX12_readsFactor_35 : decode cX12_readsFactor 35 = .ok (.ireturn, 1) := by decide +kernel
theorem dX12_readsFactor_36 : decode cX12_readsFactor 36 = .ok (.aload_n 0, 1) := by decide +kernel
theorem dX12_readsFactor_37 : decode cX12_readsFactor 37 = .ok (.iconst 0, 1) := by decide +kernel
theorem dX12_readsFactor_38 : decode cX12_readsFactor 38 = .ok (.aload_n 0, 1) := by decide +kernel
theorem dX12_readsFactor_39 : decode cX12_readsFactor 39 = .ok (.getfield 160, 3) := by decide +kernel
theorem dX12_readsFactor_42 : decode cX12_readsFactor 42 = .ok (.invokevirtual 180, 3) := by decide +kernel
theorem dX12_readsFactor_45 : decode cX12_readsFactor 45 = .ok (.iconst 1, 1) := by decide +kernel
theorem dX12_readsFactor_46 : decode cX12_readsFactor 46 = .ok (.ireturn, 1) := by decide +kernel
theorem dX12_readsFactor_47 : decode cX12_readsFactor 47 = .ok (.aload_n 0, 1) := by decide +kernel
theorem dX12_readsFactor_48 : decode cX12_readsFactor 48 = .ok (.invokevirtual 150, 3) := by decide +kernel
theorem dX12_readsFactor_51 : decode cX12_readsFactor 51 = .ok (.invokestatic 190, 3) := by decide +kernel
theorem dX12_readsFactor_54 : decode cX12_readsFactor 54 = .ok (.istore_n 1, 1) := by decide +kernel
theorem dX12_readsFactor_55 : decode cX12_readsFactor 55 = .ok (.iload_n 1, 1) := by decide +kernel
theorem dX12_readsFactor_56 : decode cX12_readsFactor 56 = .ok (.iconst (-1), 1) := by decide +kernel
theorem dX12_readsFactor_57 : decode cX12_readsFactor 57 = .ok (.if_icmp .ne 13, 3) := by decide +kernel
theorem dX12_readsFactor_60 : decode cX12_readsFactor 60 = .ok (.aload_n 0, 1) := by decide +kernel
theorem dX12_readsFactor_61 : decode cX12_readsFactor 61 = .ok (.iconst 1, 1) := by decide +kernel
theorem dX12_readsFactor_62 : decode cX12_readsFactor 62 = .ok (.aload_n 0, 1) := by decide +kernel
theorem dX12_readsFactor_63 : decode cX12_readsFactor 63 = .ok (.getfield 144, 3) := by decide +kernel
theorem dX12_readsFactor_66 : decode cX12_readsFactor 66 = .ok (.invokevirtual 157, 3) := by decide +kernel
theorem dX12_readsFactor_69 : decode cX12_readsFactor 69 = .ok (.ireturn, 1) := by decide +kernel
theorem dX12_readsFactor_70 : decode cX12_readsFactor 70 = .ok (.aload_n 0, 1) := by decide +kernel
theorem dX12_readsFactor_71 : decode cX12_readsFactor 71 = .ok (.iconst 1, 1) := by decide +kernel
theorem dX12_readsFactor_72 : decode cX12_readsFactor 72 = .ok (.iload_n 1, 1) := by decide +kernel
theorem dX12_readsFactor_73 : decode cX12_readsFactor 73 = .ok (.invokevirtual 180, 3) := by decide +kernel
theorem dX12_readsFactor_76 : decode cX12_readsFactor 76 = .ok (.aload_n 0, 1) := by decide +kernel
theorem dX12_readsFactor_77 : decode cX12_readsFactor 77 = .ok (.aload_n 0, 1) := by decide +kernel
theorem dX12_readsFactor_78 : decode cX12_readsFactor 78 = .ok (.getfield 144, 3) := by decide +kernel
theorem dX12_readsFactor_81 : decode cX12_readsFactor 81 = .ok (.iconst 1, 1) := by decide +kernel
theorem dX12_readsFactor_82 : decode cX12_readsFactor 82 = .ok (.iadd, 1) := by decide +kernel
theorem dX12_readsFactor_83 : decode cX12_readsFactor 83 = .ok (.putfield 144, 3) := by decide +kernel
theorem dX12_readsFactor_86 : decode cX12_readsFactor 86 = .ok (.iconst 1, 1) := by decide +kernel
theorem dX12_readsFactor_87 : decode cX12_readsFactor 87 = .ok (.ireturn, 1) := by decide +kernel
set_option maxRecDepth 100000 in
def f_m_readsFactor (V : Nat → Nat → Int) (J : Nat → Nat → Int) (Rr : Nat → Nat → Nat) : (Int × (Nat → Nat → Int)) → Prop :=
  lop1 ((V 0 6 - V 0 5).toNat + 1) (fun rc51 (V51 : Nat → Nat → Int) => rdb (V51 0 5) fun z52 => fct (0 ≤ z52 ∧ z52 ≤ 220) <| rdb (V51 0 6) fun z53 => fct (0 ≤ z53 ∧ z53 ≤ 220) <| rdb (V51 0 10) fun z54 => fct (0 ≤ z54 ∧ z54 ≤ 220) <| rdb (V51 0 11) fun z55 => fct (0 ≤ z55 ∧ z55 ≤ 220) <| calR (f_m_here V51 J Rr) fun z56 => fct (-1 ≤ z56 ∧ z56 ≤ 255) <| (if ¬ z56 = 91 then calR (f_m_isDigit V51 J Rr) fun z58 => fct (0 ≤ z58 ∧ z58 ≤ 1) <| (if z58 = 0 then calR (f_m_here V51 J Rr) fun z61 => fct (-1 ≤ z61 ∧ z61 ≤ 255) <| calR (f_m_factOf z61) fun z62 => fct (-1 ≤ z62 ∧ z62 ≤ 12) <| (if ¬ z62 = (-1) then calUM 590295810358705652736 V51 (f_m_notes 1 z62 V51 J Rr) fun V64 => rdb (up2 V64 0 5 (z52 + 1)) fun V65 => rtn (1, V65) else calVM 128 V51 (f_m_wrongAt 1 z52 V51 J Rr) fun z66 V66 => fct (0 ≤ z66 ∧ z66 ≤ 0) <| rtn (z66, V66)) else calVM 416 V51 (f_m_readsNumber V51 J Rr) fun z68 V68 => fct (0 ≤ z68 ∧ z68 ≤ 1) <| (if ¬ z68 = 0 then rdb (V68 0 5) fun z71 => fct (0 ≤ z71 ∧ z71 ≤ 220) <| rdb (V68 0 8) fun z72 => calUM 590295810358705652736 V68 (f_m_notes 0 z72 V68 J Rr) fun V73 => rtn (1, V73) else rtn (0, V68))) else calVM 1180591620717411306144 V51 (f_m_opens 14 V51 J Rr) fun z74 V74 => fct (0 ≤ z74 ∧ z74 ≤ 1) <| (if ¬ z74 = 0 then rc51 V74 else rtn (0, V74)))) V
set_option maxHeartbeats 8000000 in
set_option maxRecDepth 100000 in
theorem m_readsFactor (l : Launch) (D : va_G) (cy : Nat → ClassId) (ad : Nat → Nat) (G : Nat → Nat → Int) (V J : Nat → Nat → Int) (Rr : Nat → Nat → Nat) (hI : MI G V) (hJ : VJ J) (hR : MR Rr) (b c0 d : Int) (hS : SI b c0 d 0 V) (hP : PG V) : xMi l D (xTY cy) yX12_readsFactor cX12_readsFactor 2 (some .boolean) 3 61 0 0 [.ref (ad 0)] (MW cy ad V J Rr) (fun u : Nat → Nat → Int => MW cy ad u J Rr) (fun a (u : Nat → Nat → Int) => MI G u ∧ (0 ≤ a ∧ a ≤ 1) ∧ Sp a (pFac b c0 d 1 V u) ∧ FBm 1770887431076116959136 V u ∧ (f_m_readsFactor V J Rr) (a, u)) := by
  refine xMi.mk (lv0 := [(0, .ref (ad 0))]) (by decide) rfl (Nat.le_of_ble_eq_true rfl) (fun p e s m below meth c A C hr hnm hAe => ?_)
  have C : xC2 p s m _ meth c D A s.heap 2 cX12_readsFactor RX12 (xTY cy) := C
  have hB : FBm 1770887431076116959136 V V := FBm.rf _ _
  have hF := Imp.of_eq (f_m_readsFactor.eq_def V J Rr)
  obtain ⟨bd51, hbd51, hF⟩ := lop1_ex hF
  refine x_loop (I := fun V51 : (Nat → Nat → Int) => MI G V51 ∧ FBm 1770887431076116959136 V V51 ∧ SI b c0 d 0 V51 ∧ PG V51 ∧ FrS b c0 V V51 ∧ (∃ nf : Nat, (V51 0 6 - V51 0 5).toNat < nf ∧ Imp (lop1 nf bd51 V51) (f_m_readsFactor V J Rr))) (μ := fun V51 : (Nat → Nat → Int) => (V51 0 6 - V51 0 5).toNat) (wsf := fun V51 : (Nat → Nat → Int) => MW cy ad V51 J Rr) (lvf := fun V51 : (Nat → Nat → Int) => [(0, .ref (ad 0))]) (fun V51 hI51x ih51 => ?_) V ⟨hI, hB, hS, hP, FrS.rf, ⟨_, (Nat.lt_succ_self _), hF⟩⟩ rfl rfl
  obtain ⟨hI51, hB51, hs, hp, hf, nf51, hn51, hF⟩ := hI51x
  try dsimp only
  obtain ⟨nf51, rfl⟩ : ∃ mm, nf51 = mm + 1 := ⟨nf51 - 1, (Nat.succ_pred_eq_of_pos (Nat.lt_of_le_of_lt (Nat.zero_le _) hn51)).symm⟩
  replace hF := hF.to (lop1_s hbd51)
  obtain ⟨z52, ez52, bz52⟩ := hI51.rd 0 5 (x := 0) (y := 220) rfl
  replace hF := hF.to (rdb_e (z := z52) ez52)
  replace hF := hF.fc bz52
  obtain ⟨z53, ez53, bz53⟩ := hI51.rd 0 6 (x := 0) (y := 220) rfl
  replace hF := hF.to (rdb_e (z := z53) ez53)
  replace hF := hF.fc bz53
  obtain ⟨z54, ez54, bz54⟩ := hI51.rd 0 10 (x := 0) (y := 220) rfl
  replace hF := hF.to (rdb_e (z := z54) ez54)
  replace hF := hF.fc bz54
  obtain ⟨z55, ez55, bz55⟩ := hI51.rd 0 11 (x := 0) (y := 220) rfl
  replace hF := hF.to (rdb_e (z := z55) ez55)
  replace hF := hF.fc bz55
  have hc2 := hs.c200 hp
  rw [ez52, ez54, ez55] at hc2
  have hpz := hp
  unfold PG at hpz
  rw [ez52, ez53, ez54, ez55] at hpz
  refine x_aload_n C.1 dX12_readsFactor_0 0 rfl ?_
  refine x_callVi C (As := []) (rest := []) 0 (xw_at (N := 33) (i := 0) (by decide) rfl) vc_X12 (m_here l D cy ad G V51 J Rr hI51 hJ hR ) (l1 := []) (l2 := []) (List.append_nil _).symm (w2 := fun _ => MW cy ad V51 J Rr) (fun _ => List.append_nil _) rfl wm_yX12_here wn_X12 wl_X12_150 wi_yX12_here we_yX12_here hd_yX12_here rfl ⟨Nat.le_of_ble_eq_true rfl, Nat.le_of_ble_eq_true rfl⟩ (Nat.le_of_ble_eq_true rfl) ⟨Nat.le_of_ble_eq_true rfl, Nat.le_of_ble_eq_true rfl⟩ dX12_readsFactor_1 (fun z56 u56 bz56 h56 => ?_)
  obtain ⟨bq56, hx56_0, hx56_1, hFc56⟩ := h56
  replace hF := calR_i hF hFc56
  replace hF := hF.fc bq56
  rw [ez52, ez53] at hx56_0
  refine x_bipush C.1 (n := 91) dX12_readsFactor_4 ?_
  refine x_icmp_ne C.1 (tgt := 20) dX12_readsFactor_6 (by decide) (by omega) (by decide) (fun hc57 => ?_) (fun hc57 => ?_)
  · replace hF := hF.to (if_pos hc57)
    refine x_aload_n C.1 dX12_readsFactor_20 0 rfl ?_
    refine x_callVi C (As := []) (rest := []) 0 (xw_at (N := 33) (i := 0) (by decide) rfl) vc_X12 (m_isDigit l D cy ad G V51 J Rr hI51 hJ hR ) (l1 := []) (l2 := []) (List.append_nil _).symm (w2 := fun _ => MW cy ad V51 J Rr) (fun _ => List.append_nil _) rfl wm_yX12_isDigit wn_X12 wl_X12_163 wi_yX12_isDigit we_yX12_isDigit hd_yX12_isDigit rfl ⟨Nat.le_of_ble_eq_true rfl, Nat.le_of_ble_eq_true rfl⟩ (Nat.le_of_ble_eq_true rfl) ⟨Nat.le_of_ble_eq_true rfl, Nat.le_of_ble_eq_true rfl⟩ dX12_readsFactor_21 (fun z58 u58 bz58 h58 => ?_)
    obtain ⟨bq58, hx58_0, hFc58⟩ := h58
    replace hF := calR_i hF hFc58
    replace hF := hF.fc bq58
    refine x_if_eq C.1 (tgt := 47) dX12_readsFactor_24 (by decide) (by omega) (fun hc59 => ?_) (fun hc59 => ?_)
    · replace hF := hF.to (if_pos hc59)
      have hof60 := Sq.off hx58_0 (by omega)
      refine x_aload_n C.1 dX12_readsFactor_47 0 rfl ?_
      refine x_callVi C (As := []) (rest := []) 0 (xw_at (N := 33) (i := 0) (by decide) rfl) vc_X12 (m_here l D cy ad G V51 J Rr hI51 hJ hR ) (l1 := []) (l2 := []) (List.append_nil _).symm (w2 := fun _ => MW cy ad V51 J Rr) (fun _ => List.append_nil _) rfl wm_yX12_here wn_X12 wl_X12_150 wi_yX12_here we_yX12_here hd_yX12_here rfl ⟨Nat.le_of_ble_eq_true rfl, Nat.le_of_ble_eq_true rfl⟩ (Nat.le_of_ble_eq_true rfl) ⟨Nat.le_of_ble_eq_true rfl, Nat.le_of_ble_eq_true rfl⟩ dX12_readsFactor_48 (fun z61 u61 bz61 h61 => ?_)
      obtain ⟨bq61, hx61_0, hx61_1, hFc61⟩ := h61
      replace hF := calR_i hF hFc61
      replace hF := hF.fc bq61
      rw [ez52, ez53] at hx61_0
      refine x_callSi C (As := [vI z61]) (rest := []) (m_factOf l D cy z61 ⟨by omega, by omega⟩) (l1 := []) (l2 := _) rfl (w2 := fun _ => _) (fun _ => rfl) rfl wm_yX12_factOf wn_X12 wl_X12_190 wi_yX12_factOf hd_yX12_factOf rfl ⟨Nat.le_of_ble_eq_true rfl, Nat.le_of_ble_eq_true rfl⟩ (Nat.le_of_ble_eq_true rfl) ⟨Nat.le_of_ble_eq_true rfl, Nat.le_of_ble_eq_true rfl⟩ dX12_readsFactor_51 (fun z62 u62 bz62 h62 => ?_)
      obtain ⟨bq62, hx62_0, hFc62⟩ := h62
      replace hF := calR_i hF hFc62
      replace hF := hF.fc bq62
      refine x_istore_n C.1 (lv' := [(1, vI z62), (0, .ref (ad 0))]) dX12_readsFactor_54 (by decide) rfl ?_
      refine x_iload_n C.1 dX12_readsFactor_55 0 rfl ?_
      refine x_iconst C.1 (n := -1) dX12_readsFactor_56 ?_
      refine x_icmp_ne C.1 (tgt := 70) dX12_readsFactor_57 (by decide) (by omega) (by decide) (fun hc63 => ?_) (fun hc63 => ?_)
      · replace hF := hF.to (if_pos hc63)
        refine x_aload_n C.1 dX12_readsFactor_70 1 rfl ?_
        refine x_iconst C.1 (n := 1) dX12_readsFactor_71 ?_
        refine x_iload_n C.1 dX12_readsFactor_72 0 rfl ?_
        refine x_callVv C (As := [vI 1, vI z62]) (rest := []) 0 (xw_at (N := 33) (i := 0) (by decide) rfl) vc_X12 (m_notes l D cy ad G V51 J Rr hI51 hJ hR 1 ⟨by decide, by decide⟩ z62 ⟨by omega, by omega⟩ (by rw [ez54]; omega)) (l1 := []) (l2 := []) (List.append_nil _).symm (w2 := fun u : Nat → Nat → Int => MW cy ad u J Rr) (fun _ => List.append_nil _) rfl wm_yX12_notes wn_X12 wl_X12_180 wi_yX12_notes we_yX12_notes hd_yX12_notes rfl ⟨Nat.le_of_ble_eq_true rfl, Nat.le_of_ble_eq_true rfl⟩ (Nat.le_of_ble_eq_true rfl) ⟨Nat.le_of_ble_eq_true rfl, Nat.le_of_ble_eq_true rfl⟩ dX12_readsFactor_73 (fun V64 h64 => ?_)
        obtain ⟨hI64, hx64_0, hBc64, hFc64⟩ := h64
        replace hF := calUM_i hF hFc64 hBc64
        have hB64 := hB51.tr hBc64 (m := 590295810358705652736) rfl
        refine x_aload_n C.1 dX12_readsFactor_76 1 rfl ?_
        refine x_aload_n C.1 dX12_readsFactor_77 1 rfl ?_
        refine x_getI C (N := 33) (i := 0) (by decide) rfl vc_X12 wx_X12 5 (by decide) wf_X12_144 rfl dX12_readsFactor_78 (a := z52) ((congrFun (congrFun hx64_0 0) (5)).trans ((up2_n _ _ (Or.inr (by decide))).trans ((up2_n _ _ (Or.inl (by decide))).trans ez52))) ?_
        refine x_iconst C.1 (n := 1) dX12_readsFactor_81 ?_
        refine x_iadd C.1 (v := z52 + 1) (by omega) dX12_readsFactor_82 ?_
        refine x_putI C (N := 33) (i := 0) (by decide) rfl vc_X12 wx_X12 5 (by decide) wf_X12_144 tyX12 tyX12_ok nmX12 rfl (tyX12_ok 5 (by decide)) rfl dX12_readsFactor_83 rfl rfl ?_
        refine x_gV ?_
        intro V65 hV65
        have hI65 : MI G V65 := hI64.up hV65 rfl (by omega) rfl (Or.inl (by decide))
        have hB65 := hB64.up hV65 rfl
        replace hF := hF.to (rdb_e (z := V65) hV65.symm)
        refine x_iconst C.1 (n := 1) dX12_readsFactor_86 ?_
        exact x_zret (S := (Nat → Nat → Int)) (post := (fun a (u : Nat → Nat → Int) => MI G u ∧ (0 ≤ a ∧ a ≤ 1) ∧ Sp a (pFac b c0 d 1 V u) ∧ FBm 1770887431076116959136 V u ∧ (f_m_readsFactor V J Rr) (a, u))) (w1 := (fun u : Nat → Nat → Int => MW cy ad u J Rr)) (a := 1) C hr rfl dX12_readsFactor_87 (by decide) V65 rfl ⟨hI65, ⟨by decide, by decide⟩, (Or.inr ⟨rfl, pFac.tr hf (facLet (v := z62) hs hp (by rw [ez52, ez53]; omega) (by omega) (by rw [hV65, hx64_0, ez52]))⟩), hB65, hF _ rfl⟩
      · replace hF := hF.to (if_neg (fun hh => hh hc63))
        refine x_aload_n C.1 dX12_readsFactor_60 1 rfl ?_
        refine x_iconst C.1 (n := 1) dX12_readsFactor_61 ?_
        refine x_aload_n C.1 dX12_readsFactor_62 1 rfl ?_
        refine x_getI C (N := 33) (i := 0) (by decide) rfl vc_X12 wx_X12 5 (by decide) wf_X12_144 rfl dX12_readsFactor_63 (a := z52) ez52 ?_
        refine x_callVi C (As := [vI 1, vI z52]) (rest := []) 0 (xw_at (N := 33) (i := 0) (by decide) rfl) vc_X12 (m_wrongAt l D cy ad G V51 J Rr hI51 hJ hR 1 ⟨by decide, by decide⟩ z52 ⟨by omega, by omega⟩) (l1 := []) (l2 := []) (List.append_nil _).symm (w2 := fun u : Nat → Nat → Int => MW cy ad u J Rr) (fun _ => List.append_nil _) rfl wm_yX12_wrongAt wn_X12 wl_X12_157 wi_yX12_wrongAt we_yX12_wrongAt hd_yX12_wrongAt rfl ⟨Nat.le_of_ble_eq_true rfl, Nat.le_of_ble_eq_true rfl⟩ (Nat.le_of_ble_eq_true rfl) ⟨Nat.le_of_ble_eq_true rfl, Nat.le_of_ble_eq_true rfl⟩ dX12_readsFactor_66 (fun z66 V66 bz66 h66 => ?_)
        obtain ⟨hI66, bq66, hx66_0, hBc66, hFc66⟩ := h66
        replace hF := calVM_i hF hFc66 hBc66
        replace hF := hF.fc bq66
        have hB66 := hB51.tr hBc66 (m := 128) rfl
        exact x_zret (S := (Nat → Nat → Int)) (post := (fun a (u : Nat → Nat → Int) => MI G u ∧ (0 ≤ a ∧ a ≤ 1) ∧ Sp a (pFac b c0 d 1 V u) ∧ FBm 1770887431076116959136 V u ∧ (f_m_readsFactor V J Rr) (a, u))) (w1 := (fun u : Nat → Nat → Int => MW cy ad u J Rr)) (a := z66) C hr rfl dX12_readsFactor_69 (by omega) V66 rfl ⟨hI66, ⟨by omega, by omega⟩, (Or.inl (by omega)), hB66, hF _ rfl⟩
    · replace hF := hF.to (if_neg hc59)
      have hon67 := Sq.on hx58_0 (by omega)
      refine x_aload_n C.1 dX12_readsFactor_27 0 rfl ?_
      refine x_callVi C (As := []) (rest := []) 0 (xw_at (N := 33) (i := 0) (by decide) rfl) vc_X12 (m_readsNumber l D cy ad G V51 J Rr hI51 hJ hR (by rw [ez52, ez53]; omega)) (l1 := []) (l2 := []) (List.append_nil _).symm (w2 := fun u : Nat → Nat → Int => MW cy ad u J Rr) (fun _ => List.append_nil _) rfl wm_yX12_readsNumber wn_X12 wl_X12_187 wi_yX12_readsNumber we_yX12_readsNumber hd_yX12_readsNumber rfl ⟨Nat.le_of_ble_eq_true rfl, Nat.le_of_ble_eq_true rfl⟩ (Nat.le_of_ble_eq_true rfl) ⟨Nat.le_of_ble_eq_true rfl, Nat.le_of_ble_eq_true rfl⟩ dX12_readsFactor_28 (fun z68 V68 bz68 h68 => ?_)
      obtain ⟨hI68, bq68, hx68_0, hBc68, hFc68⟩ := h68
      replace hF := calVM_i hF hFc68 hBc68
      replace hF := hF.fc bq68
      have hB68 := hB51.tr hBc68 (m := 416) rfl
      refine x_if_ne C.1 (tgt := 36) dX12_readsFactor_31 (by decide) (by omega) (fun hc69 => ?_) (fun hc69 => ?_)
      · replace hF := hF.to (if_pos hc69)
        have hon70 := Sp.on hx68_0 (by omega)
        obtain ⟨z71, ez71, bz71⟩ := hI68.rd 0 5 (x := 0) (y := 220) rfl
        replace hF := hF.to (rdb_e (z := z71) ez71)
        replace hF := hF.fc bz71
        obtain ⟨z72, ez72, bz72⟩ := hI68.rd 0 8 (x := -2147483648) (y := 2147483647) rfl
        replace hF := hF.to (rdb_e (z := z72) ez72)
        have hn70 := hon70.1
        have hnl70 := hon70.2.2.1
        have hnp70 := hon70.2.1
        rw [ez72] at hn70
        rw [ez71, ((hon70.2.2.2 0 6 (Or.inr (by decide))).trans ez53)] at hnl70
        rw [ez71, ez52] at hnp70
        refine x_aload_n C.1 dX12_readsFactor_36 0 rfl ?_
        refine x_iconst C.1 (n := 0) dX12_readsFactor_37 ?_
        refine x_aload_n C.1 dX12_readsFactor_38 0 rfl ?_
        refine x_getI C (N := 33) (i := 0) (by decide) rfl vc_X12 wx_X12 8 (by decide) wf_X12_160 rfl dX12_readsFactor_39 (a := z72) ez72 ?_
        refine x_callVv C (As := [vI 0, vI z72]) (rest := []) 0 (xw_at (N := 33) (i := 0) (by decide) rfl) vc_X12 (m_notes l D cy ad G V68 J Rr hI68 hJ hR 0 ⟨by decide, by decide⟩ z72 ⟨by omega, by omega⟩ (by rw [((hon70.2.2.2 0 10 (Or.inr (by decide))).trans ez54)]; omega)) (l1 := []) (l2 := []) (List.append_nil _).symm (w2 := fun u : Nat → Nat → Int => MW cy ad u J Rr) (fun _ => List.append_nil _) rfl wm_yX12_notes wn_X12 wl_X12_180 wi_yX12_notes we_yX12_notes hd_yX12_notes rfl ⟨Nat.le_of_ble_eq_true rfl, Nat.le_of_ble_eq_true rfl⟩ (Nat.le_of_ble_eq_true rfl) ⟨Nat.le_of_ble_eq_true rfl, Nat.le_of_ble_eq_true rfl⟩ dX12_readsFactor_42 (fun V73 h73 => ?_)
        obtain ⟨hI73, hx73_0, hBc73, hFc73⟩ := h73
        replace hF := calUM_i hF hFc73 hBc73
        have hB73 := hB68.tr hBc73 (m := 590295810358705652736) rfl
        refine x_iconst C.1 (n := 1) dX12_readsFactor_45 ?_
        exact x_zret (S := (Nat → Nat → Int)) (post := (fun a (u : Nat → Nat → Int) => MI G u ∧ (0 ≤ a ∧ a ≤ 1) ∧ Sp a (pFac b c0 d 1 V u) ∧ FBm 1770887431076116959136 V u ∧ (f_m_readsFactor V J Rr) (a, u))) (w1 := (fun u : Nat → Nat → Int => MW cy ad u J Rr)) (a := 1) C hr rfl dX12_readsFactor_46 (by decide) V73 rfl ⟨hI73, ⟨by decide, by decide⟩, (Or.inr ⟨rfl, pFac.tr hf (facNum hs hp hon70.2.2.2 (by rw [ez52, ez71]; omega) (by rw [ez71, ((hon70.2.2.2 0 6 (Or.inr (by decide))).trans ez53)]; omega) (by omega) hx73_0)⟩), hB73, hF _ rfl⟩
      · replace hF := hF.to (if_neg (fun hh => hh hc69))
        refine x_iconst C.1 (n := 0) dX12_readsFactor_34 ?_
        exact x_zret (S := (Nat → Nat → Int)) (post := (fun a (u : Nat → Nat → Int) => MI G u ∧ (0 ≤ a ∧ a ≤ 1) ∧ Sp a (pFac b c0 d 1 V u) ∧ FBm 1770887431076116959136 V u ∧ (f_m_readsFactor V J Rr) (a, u))) (w1 := (fun u : Nat → Nat → Int => MW cy ad u J Rr)) (a := 0) C hr rfl dX12_readsFactor_35 (by decide) V68 rfl ⟨hI68, ⟨by decide, by decide⟩, (Or.inl rfl), hB68, hF _ rfl⟩
  · replace hF := hF.to (if_neg (fun hh => hh hc57))
    refine x_aload_n C.1 dX12_readsFactor_9 0 rfl ?_
    refine x_bipush C.1 (n := 14) dX12_readsFactor_10 ?_
    refine x_callVi C (As := [vI 14]) (rest := []) 0 (xw_at (N := 33) (i := 0) (by decide) rfl) vc_X12 (m_opens l D cy ad G V51 J Rr hI51 hJ hR 14 ⟨by decide, by decide⟩ (by rw [ez52, ez53]; omega) (by rw [ez53]; omega) (by rw [ez55]; omega)) (l1 := []) (l2 := []) (List.append_nil _).symm (w2 := fun u : Nat → Nat → Int => MW cy ad u J Rr) (fun _ => List.append_nil _) rfl wm_yX12_opens wn_X12 wl_X12_184 wi_yX12_opens we_yX12_opens hd_yX12_opens rfl ⟨Nat.le_of_ble_eq_true rfl, Nat.le_of_ble_eq_true rfl⟩ (Nat.le_of_ble_eq_true rfl) ⟨Nat.le_of_ble_eq_true rfl, Nat.le_of_ble_eq_true rfl⟩ dX12_readsFactor_12 (fun z74 V74 bz74 h74 => ?_)
    obtain ⟨hI74, bq74, hx74_0, hBc74, hFc74⟩ := h74
    replace hF := calVM_i hF hFc74 hBc74
    replace hF := hF.fc bq74
    have hB74 := hB51.tr hBc74 (m := 1180591620717411306144) rfl
    refine x_if_ne C.1 (tgt := 0) dX12_readsFactor_15 (by decide) (by omega) (fun hc75 => ?_) (fun hc75 => ?_)
    · replace hF := hF.to (if_pos hc75)
      have hon76 := Sp.on hx74_0 (by omega)
      obtain ⟨o, ho⟩ := hon76
      have hk := opnS hs hp (by rw [ez52, ez53]; omega) (pdv_m0 (s := 14) (by omega)) ho
      have hm1 := hk.2.2.1.2.2.1
      have hm2 := hk.2.2.2
      have hm3 := hk.2.1.2.1
      have hmu51 : (V74 0 6 - V74 0 5).toNat < (V51 0 6 - V51 0 5).toNat := (by omega)
      exact ih51 V74 ⟨hI74, hB74, hk.1, hk.2.1, (hf.tr hk.2.2.1), ⟨nf51, Nat.lt_of_lt_of_le hmu51 (Nat.le_of_lt_succ hn51), hF⟩⟩ hmu51
    · replace hF := hF.to (if_neg (fun hh => hh hc75))
      refine x_iconst C.1 (n := 0) dX12_readsFactor_18 ?_
      exact x_zret (S := (Nat → Nat → Int)) (post := (fun a (u : Nat → Nat → Int) => MI G u ∧ (0 ≤ a ∧ a ≤ 1) ∧ Sp a (pFac b c0 d 1 V u) ∧ FBm 1770887431076116959136 V u ∧ (f_m_readsFactor V J Rr) (a, u))) (w1 := (fun u : Nat → Nat → Int => MW cy ad u J Rr)) (a := 0) C hr rfl dX12_readsFactor_19 (by decide) V74 rfl ⟨hI74, ⟨by decide, by decide⟩, (Or.inl rfl), hB74, hF _ rfl⟩
theorem dX12_hasOpenSum_0 : decode cX12_hasOpenSum 0 = .ok (.iload_n 1, 1) := by decide +kernel
theorem dX12_hasOpenSum_1 : decode cX12_hasOpenSum 1 = .ok (.istore_n 2, 1) := by decide +kernel
theorem dX12_hasOpenSum_2 : decode cX12_hasOpenSum 2 = .ok (.iload_n 2, 1) := by decide +kernel
theorem dX12_hasOpenSum_3 : decode cX12_hasOpenSum 3 = .ok (.aload_n 0, 1) := by decide +kernel
theorem dX12_hasOpenSum_4 : decode cX12_hasOpenSum 4 = .ok (.getfield 174, 3) := by decide +kernel
theorem dX12_hasOpenSum_7 : decode cX12_hasOpenSum 7 = .ok (.if_icmp .ge 25, 3) := by decide +kernel
theorem dX12_hasOpenSum_10 : decode cX12_hasOpenSum 10 = .ok (.aload_n 0, 1) := by decide +kernel
theorem dX12_hasOpenSum_11 : decode cX12_hasOpenSum 11 = .ok (.getfield 26, 3) := by decide +kernel
theorem dX12_hasOpenSum_14 : decode cX12_hasOpenSum 14 = .ok (.iload_n 2, 1) := by decide +kernel
theorem dX12_hasOpenSum_15 : decode cX12_hasOpenSum 15 = .ok (.iaload, 1) := by decide +kernel
theorem dX12_hasOpenSum_16 : decode cX12_hasOpenSum 16 = .ok (.ldc 170, 2) := by decide +kernel
theorem dX12_hasOpenSum_18 : decode cX12_hasOpenSum 18 = .ok (.idiv, 1) := by decide +kernel
theorem dX12_hasOpenSum_19 : decode cX12_hasOpenSum 19 = .ok (.bipush 14, 2) := by decide +kernel
theorem dX12_hasOpenSum_21 : decode cX12_hasOpenSum 21 = .ok (.if_icmp .ne 5, 3) := by decide +kernel
theorem dX12_hasOpenSum_24 : decode cX12_hasOpenSum 24 = .ok (.iconst 1, 1) := by decide +kernel
theorem dX12_hasOpenSum_25 : decode cX12_hasOpenSum 25 = .ok (.ireturn, 1) := by decide +kernel
theorem dX12_hasOpenSum_26 : decode cX12_hasOpenSum 26 = .ok (.iinc 2 1, 3) := by decide +kernel
theorem dX12_hasOpenSum_29 : decode cX12_hasOpenSum 29 = .ok (.goto (-27), 3) := by decide +kernel
theorem dX12_hasOpenSum_32 : decode cX12_hasOpenSum 32 = .ok (.iconst 0, 1) := by decide +kernel
theorem dX12_hasOpenSum_33 : decode cX12_hasOpenSum 33 = .ok (.ireturn, 1) := by decide +kernel
set_option maxRecDepth 100000 in
def f_m_hasOpenSum (x1 : Int) (V : Nat → Nat → Int) (J : Nat → Nat → Int) (Rr : Nat → Nat → Nat) : (Int) → Prop :=
  lop1 (222) (fun rc19 (z18 : Int) => rdb (V 0 11) fun z25 => fct (0 ≤ z25 ∧ z25 ≤ 220) <| (if z25 ≤ z18 then rtn 0 else rdb (V 6 z18.toNat) fun z27 => rdb (iDiv z27 1048576) fun z28 => (if ¬ z28 = 14 then rc19 (z18 + 1) else rtn 1))) x1
set_option maxHeartbeats 8000000 in
set_option maxRecDepth 100000 in
theorem m_hasOpenSum (l : Launch) (D : va_G) (cy : Nat → ClassId) (ad : Nat → Nat) (G : Nat → Nat → Int) (V J : Nat → Nat → Int) (Rr : Nat → Nat → Nat) (hI : MI G V) (hJ : VJ J) (hR : MR Rr) (x1 : Int) (bx1 : 0 ≤ x1 ∧ x1 ≤ 200) : xMi l D (xTY cy) yX12_hasOpenSum cX12_hasOpenSum 3 (some .boolean) 0 0 0 0 [.ref (ad 0), vI x1] (MW cy ad V J Rr) (fun _ : Unit => MW cy ad V J Rr) (fun a (u : Unit) => (0 ≤ a ∧ a ≤ 1) ∧ (Sq a (∃ j : Nat, x1 ≤ (j : Int) ∧ (j : Int) < V 0 11 ∧ pdv (V 6 j) = 14)) ∧ (f_m_hasOpenSum x1 V J Rr) a) := by
  refine xMi.mk (lv0 := [(0, .ref (ad 0)), (1, vI x1)]) (by decide) rfl (Nat.le_of_ble_eq_true rfl) (fun p e s m below meth c A C hr hnm hAe => ?_)
  have C : xC2 p s m _ meth c D A s.heap 3 cX12_hasOpenSum RX12 (xTY cy) := C
  have hF := Imp.of_eq (f_m_hasOpenSum.eq_def x1 V J Rr)
  refine x_iload_n C.1 dX12_hasOpenSum_0 1 rfl ?_
  refine x_istore_n C.1 (lv' := [(2, vI x1), (0, .ref (ad 0)), (1, vI x1)]) dX12_hasOpenSum_1 (by decide) rfl ?_
  obtain ⟨bd19, hbd19, hF⟩ := lop1_ex hF
  refine x_loop (I := fun z18 : Int => (0 ≤ z18 ∧ z18 ≤ 220) ∧ x1 ≤ z18 ∧ (∀ j : Nat, x1 ≤ (j : Int) → (j : Int) < z18 → ¬ pdv (V 6 j) = 14) ∧ (∃ nf : Nat, (221 - z18).toNat < nf ∧ Imp (lop1 nf bd19 z18) (f_m_hasOpenSum x1 V J Rr))) (μ := fun z18 : Int => (221 - z18).toNat) (wsf := fun z18 : Int => MW cy ad V J Rr) (lvf := fun z18 : Int => [(2, vI z18), (0, .ref (ad 0)), (1, vI x1)]) (fun z18 hI19x ih19 => ?_) x1 ⟨⟨by omega, by omega⟩, (by omega), (fun j j1 j2 => by omega), ⟨_, (by omega), hF⟩⟩ rfl rfl
  obtain ⟨bz18, hx1, hno, nf19, hn19, hF⟩ := hI19x
  try dsimp only
  obtain ⟨nf19, rfl⟩ : ∃ mm, nf19 = mm + 1 := ⟨nf19 - 1, (Nat.succ_pred_eq_of_pos (Nat.lt_of_le_of_lt (Nat.zero_le _) hn19)).symm⟩
  replace hF := hF.to (lop1_s hbd19)
  refine x_iload_n C.1 dX12_hasOpenSum_2 0 rfl ?_
  refine x_aload_n C.1 dX12_hasOpenSum_3 1 rfl ?_
  obtain ⟨z25, ez25, bz25⟩ := hI.rd 0 11 (x := 0) (y := 220) rfl
  replace hF := hF.to (rdb_e (z := z25) ez25)
  replace hF := hF.fc bz25
  refine x_getI C (N := 33) (i := 0) (by decide) rfl vc_X12 wx_X12 11 (by decide) wf_X12_174 rfl dX12_hasOpenSum_4 (a := z25) ez25 ?_
  refine x_icmp_ge C.1 (tgt := 32) dX12_hasOpenSum_7 (by decide) (by omega) (by omega) (fun hc26 => ?_) (fun hc26 => ?_)
  · replace hF := hF.to (if_pos hc26)
    refine x_iconst C.1 (n := 0) dX12_hasOpenSum_32 ?_
    exact x_zret (S := Unit) (post := (fun a (u : Unit) => (0 ≤ a ∧ a ≤ 1) ∧ (Sq a (∃ j : Nat, x1 ≤ (j : Int) ∧ (j : Int) < V 0 11 ∧ pdv (V 6 j) = 14)) ∧ (f_m_hasOpenSum x1 V J Rr) a)) (w1 := (fun _ : Unit => MW cy ad V J Rr)) (a := 0) C hr rfl dX12_hasOpenSum_33 (by decide) () rfl ⟨⟨by decide, by decide⟩, (Or.inr ⟨rfl, fun ⟨j, j1, j2, j3⟩ => hno j j1 (by rw [ez25] at j2; omega) j3⟩), hF _ rfl⟩
  · replace hF := hF.to (if_neg hc26)
    refine x_aload_n C.1 dX12_hasOpenSum_10 1 rfl ?_
    refine x_getA C (N := 33) (i := 0) (by decide) rfl vc_X12 wx_X12 14 (by decide) wf_X12_26 (a := 6) rfl dX12_hasOpenSum_11 ?_
    refine x_iload_n C.1 dX12_hasOpenSum_14 0 rfl ?_
    obtain ⟨z27, ez27, bz27⟩ := hI.rd 6 z18.toNat (x := -2147483648) (y := 2147483647) rfl
    replace hF := hF.to (rdb_e (z := z27) ez27)
    refine x_iald C (N := 33) (i := 6) (q := z18) (by decide) rfl (by omega) (by decide) dX12_hasOpenSum_15 (a := z27) ez27 ?_
    refine x_ldc C.1 (n := 1048576) wq_X12_170 dX12_hasOpenSum_16 ?_
    obtain ⟨z28, hz28, bz28⟩ : ∃ z : Int, iDiv z27 1048576 = z ∧ (-2147483648 ≤ z ∧ z ≤ 2147483647) := ⟨_, rfl, xi_r _⟩
    replace hF := hF.to (rdb_e (z := z28) hz28)
    refine x_idiv C.1 (v := z28) hz28 dX12_hasOpenSum_18 (by decide) (by decide) ?_
    refine x_bipush C.1 (n := 14) dX12_hasOpenSum_19 ?_
    refine x_icmp_ne C.1 (tgt := 26) dX12_hasOpenSum_21 (by decide) (by omega) (by decide) (fun hc29 => ?_) (fun hc29 => ?_)
    · replace hF := hF.to (if_pos hc29)
      refine x_iinc C.1 (v := z18 + 1) (lv' := [(2, vI (z18 + 1)), (0, .ref (ad 0)), (1, vI x1)]) (by omega) dX12_hasOpenSum_26 0 rfl (by decide) rfl ?_
      refine x_goto C.1 (tgt := 2) dX12_hasOpenSum_29 (by decide) ?_
      have hmu19 : (221 - (z18 + 1)).toNat < (221 - z18).toNat := (by omega)
      exact ih19 (z18 + 1) ⟨⟨by omega, by omega⟩, (by omega), (fun j j1 j2 => by
      by_cases e : (j : Int) < z18
      · exact hno j j1 e
      · rw [show j = z18.toNat by omega]; unfold pdv; rw [ez27, hz28]; omega), ⟨nf19, Nat.lt_of_lt_of_le hmu19 (Nat.le_of_lt_succ hn19), hF⟩⟩ hmu19
    · replace hF := hF.to (if_neg (fun hh => hh hc29))
      refine x_iconst C.1 (n := 1) dX12_hasOpenSum_24 ?_
      exact x_zret (S := Unit) (post := (fun a (u : Unit) => (0 ≤ a ∧ a ≤ 1) ∧ (Sq a (∃ j : Nat, x1 ≤ (j : Int) ∧ (j : Int) < V 0 11 ∧ pdv (V 6 j) = 14)) ∧ (f_m_hasOpenSum x1 V J Rr) a)) (w1 := (fun _ : Unit => MW cy ad V J Rr)) (a := 1) C hr rfl dX12_hasOpenSum_25 (by decide) () rfl ⟨⟨by decide, by decide⟩, (Or.inl ⟨rfl, z18.toNat, by omega, by rw [ez25]; omega, by unfold pdv; rw [ez27, hz28]; omega⟩), hF _ rfl⟩
