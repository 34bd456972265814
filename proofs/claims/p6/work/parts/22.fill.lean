theorem dJ7_fill_53178_0 : decode cJ7_fill_53178 0 = .ok (.iconst 0, 1) := by decide +kernel
theorem dJ7_fill_53178_1 : decode cJ7_fill_53178 1 = .ok (.istore_n 2, 1) := by decide +kernel
theorem dJ7_fill_53178_2 : decode cJ7_fill_53178 2 = .ok (.aload_n 0, 1) := by decide +kernel
theorem dJ7_fill_53178_3 : decode cJ7_fill_53178 3 = .ok (.arraylength, 1) := by decide +kernel
theorem dJ7_fill_53178_4 : decode cJ7_fill_53178 4 = .ok (.istore_n 3, 1) := by decide +kernel
theorem dJ7_fill_53178_5 : decode cJ7_fill_53178 5 = .ok (.iload_n 2, 1) := by decide +kernel
theorem dJ7_fill_53178_6 : decode cJ7_fill_53178 6 = .ok (.iload_n 3, 1) := by decide +kernel
theorem dJ7_fill_53178_7 : decode cJ7_fill_53178 7 = .ok (.if_icmp .ge 13, 3) := by decide +kernel
theorem dJ7_fill_53178_10 : decode cJ7_fill_53178 10 = .ok (.aload_n 0, 1) := by decide +kernel
theorem dJ7_fill_53178_11 : decode cJ7_fill_53178 11 = .ok (.iload_n 2, 1) := by decide +kernel
theorem dJ7_fill_53178_12 : decode cJ7_fill_53178 12 = .ok (.iload_n 1, 1) := by decide +kernel
theorem dJ7_fill_53178_13 : decode cJ7_fill_53178 13 = .ok (.iastore, 1) := by decide +kernel
theorem dJ7_fill_53178_14 : decode cJ7_fill_53178 14 = .ok (.iinc 2 1, 3) := by decide +kernel
theorem dJ7_fill_53178_17 : decode cJ7_fill_53178 17 = .ok (.goto (-12), 3) := by decide +kernel
theorem dJ7_fill_53178_20 : decode cJ7_fill_53178 20 = .ok (.return_, 1) := by decide +kernel
set_option maxRecDepth 100000 in
def f_s_fillA (x1 : Int) (V : Nat → Nat → Int) (J : Nat → Nat → Int) (Rr : Nat → Nat → Nat) : (Nat → Nat → Int) → Prop :=
  lop2 (28) (fun rc15 (z14 : Int) (V15 : Nat → Nat → Int) => (if 26 ≤ z14 then rtn V15 else rdb (up2 V15 70 z14.toNat x1) fun V19 => rc15 (z14 + 1) V19)) 0 V
set_option maxHeartbeats 8000000 in
set_option maxRecDepth 100000 in
theorem s_fillA (l : Launch) (D : va_G) (cy : Nat → ClassId) (ad : Nat → Nat) (G : Nat → Nat → Int) (V J : Nat → Nat → Int) (Rr : Nat → Nat → Nat) (hI : XI G V) (hJ : VJ J) (hR : XR Rr) (x1 : Int) (bx1 : -2147483648 ≤ x1 ∧ x1 ≤ 2147483647) : xMv l D (xTY cy) yJ7_fill_53178 cJ7_fill_53178 4 none 0 0 0 0 [.ref (ad 70), vI x1] (XW cy ad V J Rr) (fun u : Nat → Nat → Int => XW cy ad u J Rr) (fun u : Nat → Nat → Int => XI G u ∧ FB (fun i k : Nat => (70 ≤ i ∧ i ≤ 70)) V u ∧ (f_s_fillA x1 V J Rr) u) := by
  refine xMv.mk (lv0 := [(0, .ref (ad 70)), (1, vI x1)]) (by decide) rfl (Nat.le_of_ble_eq_true rfl) (fun p e s m below meth c A C hr hnm hAe => ?_)
  have C : xC2 p s m _ meth c D A s.heap 4 cJ7_fill_53178 RJ7 (xTY cy) := C
  have hB : FB (fun i k : Nat => (70 ≤ i ∧ i ≤ 70)) V V := FB.rf _ _
  have hF := Imp.of_eq (f_s_fillA.eq_def x1 V J Rr)
  refine x_iconst C.1 (n := 0) dJ7_fill_53178_0 ?_
  refine x_istore_n C.1 (lv' := [(2, vI 0), (0, .ref (ad 70)), (1, vI x1)]) dJ7_fill_53178_1 (by decide) rfl ?_
  refine x_aload_n C.1 dJ7_fill_53178_2 1 rfl ?_
  refine x_alenI C (N := 129) (i := 70) (t := 0) rfl (by decide) rfl dJ7_fill_53178_3 ?_
  refine x_istore_n C.1 (lv' := [(3, vI 26), (2, vI 0), (0, .ref (ad 70)), (1, vI x1)]) dJ7_fill_53178_4 (by decide) rfl ?_
  obtain ⟨bd15, hbd15, hF⟩ := lop2_ex hF
  refine x_loop (I := fun x : Int × (Nat → Nat → Int) => match x with | (z14, V15) => (0 ≤ z14 ∧ z14 ≤ 26) ∧ XI G V15 ∧ FB (fun i k : Nat => (70 ≤ i ∧ i ≤ 70)) V V15 ∧ (∃ nf : Nat, (27 - z14).toNat < nf ∧ Imp (lop2 nf bd15 z14 V15) (f_s_fillA x1 V J Rr))) (μ := fun x : Int × (Nat → Nat → Int) => match x with | (z14, V15) => (27 - z14).toNat) (wsf := fun x : Int × (Nat → Nat → Int) => match x with | (z14, V15) => XW cy ad V15 J Rr) (lvf := fun x : Int × (Nat → Nat → Int) => match x with | (z14, V15) => [(3, vI 26), (2, vI z14), (0, .ref (ad 70)), (1, vI x1)]) (fun x hI15x ih15 => ?_) (0, V) ⟨⟨by decide, by decide⟩, hI, hB, ⟨_, (by omega), hF⟩⟩ rfl rfl
  obtain ⟨z14, V15⟩ := x
  obtain ⟨bz14, hI15, hB15, nf15, hn15, hF⟩ := hI15x
  try dsimp only
  obtain ⟨nf15, rfl⟩ : ∃ mm, nf15 = mm + 1 := ⟨nf15 - 1, (Nat.succ_pred_eq_of_pos (Nat.lt_of_le_of_lt (Nat.zero_le _) hn15)).symm⟩
  replace hF := hF.to (lop2_s hbd15)
  refine x_iload_n C.1 dJ7_fill_53178_5 1 rfl ?_
  refine x_iload_n C.1 dJ7_fill_53178_6 0 rfl ?_
  refine x_icmp_ge C.1 (tgt := 20) dJ7_fill_53178_7 (by decide) (by omega) (by decide) (fun hc18 => ?_) (fun hc18 => ?_)
  · replace hF := hF.to (if_pos hc18)
    exact x_vret (S := (Nat → Nat → Int)) (post := (fun u : Nat → Nat → Int => XI G u ∧ FB (fun i k : Nat => (70 ≤ i ∧ i ≤ 70)) V u ∧ (f_s_fillA x1 V J Rr) u)) (w1 := (fun u : Nat → Nat → Int => XW cy ad u J Rr)) C hr rfl dJ7_fill_53178_20 V15 rfl ⟨hI15, hB15, hF _ rfl⟩
  · replace hF := hF.to (if_neg hc18)
    refine x_aload_n C.1 dJ7_fill_53178_10 2 rfl ?_
    refine x_iload_n C.1 dJ7_fill_53178_11 1 rfl ?_
    refine x_iload_n C.1 dJ7_fill_53178_12 3 rfl ?_
    refine x_iast C (N := 129) (i := 70) (q := z14) (a := x1) (by decide) rfl (by omega) (by decide) dJ7_fill_53178_13 ?_
    refine x_gV ?_
    intro V19 hV19
    have hI19 : XI G V19 := hI15.up hV19 rfl (by omega) rfl
    have hB19 := hB15.up hV19 (⟨by decide, by decide⟩)
    replace hF := hF.to (rdb_e (z := V19) hV19.symm)
    refine x_iinc C.1 (v := z14 + 1) (lv' := [(2, vI (z14 + 1)), (3, vI 26), (0, .ref (ad 70)), (1, vI x1)]) (by omega) dJ7_fill_53178_14 1 rfl (by decide) rfl ?_
    refine x_goto C.1 (tgt := 5) dJ7_fill_53178_17 (by decide) ?_
    refine x_lv [(3, vI 26), (2, vI (z14 + 1)), (0, .ref (ad 70)), (1, vI x1)] [1, 0, 2, 3] rfl ?_
    have hmu15 : (27 - (z14 + 1)).toNat < (27 - z14).toNat := (by omega)
    exact ih15 (z14 + 1, V19) ⟨⟨by omega, by omega⟩, hI19, hB19, ⟨nf15, Nat.lt_of_lt_of_le hmu15 (Nat.le_of_lt_succ hn15), hF⟩⟩ hmu15
set_option maxRecDepth 100000 in
def f_s_fillT (x1 : Int) (V : Nat → Nat → Int) (J : Nat → Nat → Int) (Rr : Nat → Nat → Nat) : (Nat → Nat → Int) → Prop :=
  lop2 (5) (fun rc10 (z9 : Int) (V10 : Nat → Nat → Int) => (if 3 ≤ z9 then rtn V10 else rdb (up2 V10 104 z9.toNat x1) fun V14 => rc10 (z9 + 1) V14)) 0 V
set_option maxHeartbeats 8000000 in
set_option maxRecDepth 100000 in
theorem s_fillT (l : Launch) (D : va_G) (cy : Nat → ClassId) (ad : Nat → Nat) (G : Nat → Nat → Int) (V J : Nat → Nat → Int) (Rr : Nat → Nat → Nat) (hI : XI G V) (hJ : VJ J) (hR : XR Rr) (x1 : Int) (bx1 : -2147483648 ≤ x1 ∧ x1 ≤ 2147483647) : xMv l D (xTY cy) yJ7_fill_53178 cJ7_fill_53178 4 none 0 0 0 0 [.ref (ad 104), vI x1] (XW cy ad V J Rr) (fun u : Nat → Nat → Int => XW cy ad u J Rr) (fun u : Nat → Nat → Int => XI G u ∧ FB (fun i k : Nat => (104 ≤ i ∧ i ≤ 104)) V u ∧ (f_s_fillT x1 V J Rr) u) := by
  refine xMv.mk (lv0 := [(0, .ref (ad 104)), (1, vI x1)]) (by decide) rfl (Nat.le_of_ble_eq_true rfl) (fun p e s m below meth c A C hr hnm hAe => ?_)
  have C : xC2 p s m _ meth c D A s.heap 4 cJ7_fill_53178 RJ7 (xTY cy) := C
  have hB : FB (fun i k : Nat => (104 ≤ i ∧ i ≤ 104)) V V := FB.rf _ _
  have hF := Imp.of_eq (f_s_fillT.eq_def x1 V J Rr)
  refine x_iconst C.1 (n := 0) dJ7_fill_53178_0 ?_
  refine x_istore_n C.1 (lv' := [(2, vI 0), (0, .ref (ad 104)), (1, vI x1)]) dJ7_fill_53178_1 (by decide) rfl ?_
  refine x_aload_n C.1 dJ7_fill_53178_2 1 rfl ?_
  refine x_alenI C (N := 129) (i := 104) (t := 0) rfl (by decide) rfl dJ7_fill_53178_3 ?_
  refine x_istore_n C.1 (lv' := [(3, vI 3), (2, vI 0), (0, .ref (ad 104)), (1, vI x1)]) dJ7_fill_53178_4 (by decide) rfl ?_
  obtain ⟨bd10, hbd10, hF⟩ := lop2_ex hF
  refine x_loop (I := fun x : Int × (Nat → Nat → Int) => match x with | (z9, V10) => (0 ≤ z9 ∧ z9 ≤ 3) ∧ XI G V10 ∧ FB (fun i k : Nat => (104 ≤ i ∧ i ≤ 104)) V V10 ∧ (∃ nf : Nat, (4 - z9).toNat < nf ∧ Imp (lop2 nf bd10 z9 V10) (f_s_fillT x1 V J Rr))) (μ := fun x : Int × (Nat → Nat → Int) => match x with | (z9, V10) => (4 - z9).toNat) (wsf := fun x : Int × (Nat → Nat → Int) => match x with | (z9, V10) => XW cy ad V10 J Rr) (lvf := fun x : Int × (Nat → Nat → Int) => match x with | (z9, V10) => [(3, vI 3), (2, vI z9), (0, .ref (ad 104)), (1, vI x1)]) (fun x hI10x ih10 => ?_) (0, V) ⟨⟨by decide, by decide⟩, hI, hB, ⟨_, (by omega), hF⟩⟩ rfl rfl
  obtain ⟨z9, V10⟩ := x
  obtain ⟨bz9, hI10, hB10, nf10, hn10, hF⟩ := hI10x
  try dsimp only
  obtain ⟨nf10, rfl⟩ : ∃ mm, nf10 = mm + 1 := ⟨nf10 - 1, (Nat.succ_pred_eq_of_pos (Nat.lt_of_le_of_lt (Nat.zero_le _) hn10)).symm⟩
  replace hF := hF.to (lop2_s hbd10)
  refine x_iload_n C.1 dJ7_fill_53178_5 1 rfl ?_
  refine x_iload_n C.1 dJ7_fill_53178_6 0 rfl ?_
  refine x_icmp_ge C.1 (tgt := 20) dJ7_fill_53178_7 (by decide) (by omega) (by decide) (fun hc13 => ?_) (fun hc13 => ?_)
  · replace hF := hF.to (if_pos hc13)
    exact x_vret (S := (Nat → Nat → Int)) (post := (fun u : Nat → Nat → Int => XI G u ∧ FB (fun i k : Nat => (104 ≤ i ∧ i ≤ 104)) V u ∧ (f_s_fillT x1 V J Rr) u)) (w1 := (fun u : Nat → Nat → Int => XW cy ad u J Rr)) C hr rfl dJ7_fill_53178_20 V10 rfl ⟨hI10, hB10, hF _ rfl⟩
  · replace hF := hF.to (if_neg hc13)
    refine x_aload_n C.1 dJ7_fill_53178_10 2 rfl ?_
    refine x_iload_n C.1 dJ7_fill_53178_11 1 rfl ?_
    refine x_iload_n C.1 dJ7_fill_53178_12 3 rfl ?_
    refine x_iast C (N := 129) (i := 104) (q := z9) (a := x1) (by decide) rfl (by omega) (by decide) dJ7_fill_53178_13 ?_
    refine x_gV ?_
    intro V14 hV14
    have hI14 : XI G V14 := hI10.up hV14 rfl (by omega) rfl
    have hB14 := hB10.up hV14 (⟨by decide, by decide⟩)
    replace hF := hF.to (rdb_e (z := V14) hV14.symm)
    refine x_iinc C.1 (v := z9 + 1) (lv' := [(2, vI (z9 + 1)), (3, vI 3), (0, .ref (ad 104)), (1, vI x1)]) (by omega) dJ7_fill_53178_14 1 rfl (by decide) rfl ?_
    refine x_goto C.1 (tgt := 5) dJ7_fill_53178_17 (by decide) ?_
    refine x_lv [(3, vI 3), (2, vI (z9 + 1)), (0, .ref (ad 104)), (1, vI x1)] [1, 0, 2, 3] rfl ?_
    have hmu10 : (4 - (z9 + 1)).toNat < (4 - z9).toNat := (by omega)
    exact ih10 (z9 + 1, V14) ⟨⟨by omega, by omega⟩, hI14, hB14, ⟨nf10, Nat.lt_of_lt_of_le hmu10 (Nat.le_of_lt_succ hn10), hF⟩⟩ hmu10
theorem dJ7_fill_d0a16_0 : decode cJ7_fill_d0a16 0 = .ok (.iconst 0, 1) := by decide +kernel
theorem dJ7_fill_d0a16_1 : decode cJ7_fill_d0a16 1 = .ok (.istore_n 3, 1) := by decide +kernel
theorem dJ7_fill_d0a16_2 : decode cJ7_fill_d0a16 2 = .ok (.aload_n 0, 1) := by decide +kernel
theorem dJ7_fill_d0a16_3 : decode cJ7_fill_d0a16 3 = .ok (.arraylength, 1) := by decide +kernel
theorem dJ7_fill_d0a16_4 : decode cJ7_fill_d0a16 4 = .ok (.istore 4, 2) := by decide +kernel
theorem dJ7_fill_d0a16_6 : decode cJ7_fill_d0a16 6 = .ok (.iload_n 3, 1) := by decide +kernel
theorem dJ7_fill_d0a16_7 : decode cJ7_fill_d0a16 7 = .ok (.iload 4, 2) := by decide +kernel
theorem dJ7_fill_d0a16_9 : decode cJ7_fill_d0a16 9 = .ok (.if_icmp .ge 13, 3) := by decide +kernel
theorem dJ7_fill_d0a16_12 : decode cJ7_fill_d0a16 12 = .ok (.aload_n 0, 1) := by decide +kernel
theorem dJ7_fill_d0a16_13 : decode cJ7_fill_d0a16 13 = .ok (.iload_n 3, 1) := by decide +kernel
theorem dJ7_fill_d0a16_14 : decode cJ7_fill_d0a16 14 = .ok (.lload_n 1, 1) := by decide +kernel
theorem dJ7_fill_d0a16_15 : decode cJ7_fill_d0a16 15 = .ok (.lastore, 1) := by decide +kernel
theorem dJ7_fill_d0a16_16 : decode cJ7_fill_d0a16 16 = .ok (.iinc 3 1, 3) := by decide +kernel
theorem dJ7_fill_d0a16_19 : decode cJ7_fill_d0a16 19 = .ok (.goto (-13), 3) := by decide +kernel
theorem dJ7_fill_d0a16_22 : decode cJ7_fill_d0a16 22 = .ok (.return_, 1) := by decide +kernel
set_option maxRecDepth 100000 in
def f_s_fillO (x1 : Int) (V : Nat → Nat → Int) (J : Nat → Nat → Int) (Rr : Nat → Nat → Nat) : (xS) → Prop :=
  lop2 (15) (fun rc15 (z14 : Int) (J15 : Nat → Nat → Int) => (if 13 ≤ z14 then rtn (V, J15, Rr) else rdb (up2 J15 128 z14.toNat x1) fun J19 => rc15 (z14 + 1) J19)) 0 J
set_option maxHeartbeats 8000000 in
set_option maxRecDepth 100000 in
theorem s_fillO (l : Launch) (D : va_G) (cy : Nat → ClassId) (ad : Nat → Nat) (G : Nat → Nat → Int) (V J : Nat → Nat → Int) (Rr : Nat → Nat → Nat) (hI : XI G V) (hJ : VJ J) (hR : XR Rr) (x1 : Int) (bx1 : -9223372036854775808 ≤ x1 ∧ x1 ≤ 9223372036854775807) : xMv l D (xTY cy) yJ7_fill_d0a16 cJ7_fill_d0a16 5 none 0 0 0 0 [.ref (ad 128), vJ x1] (XW cy ad V J Rr) (fun u : xS => XW cy ad u.1 u.2.1 u.2.2) (fun u : xS => XS G u ∧ FB (fun _ _ => False) V u.1 ∧ RK u.2.2 Rr ∧ (f_s_fillO x1 V J Rr) u) := by
  refine xMv.mk (lv0 := [(0, .ref (ad 128)), (1, vJ x1)]) (by decide) rfl (Nat.le_of_ble_eq_true rfl) (fun p e s m below meth c A C hr hnm hAe => ?_)
  have C : xC2 p s m _ meth c D A s.heap 5 cJ7_fill_d0a16 RJ7 (xTY cy) := C
  have hB : FB (fun _ _ => False) V V := FB.rf _ _
  have hF := Imp.of_eq (f_s_fillO.eq_def x1 V J Rr)
  refine x_iconst C.1 (n := 0) dJ7_fill_d0a16_0 ?_
  refine x_istore_n C.1 (lv' := [(3, vI 0), (0, .ref (ad 128)), (1, vJ x1)]) dJ7_fill_d0a16_1 (by decide) rfl ?_
  refine x_aload_n C.1 dJ7_fill_d0a16_2 1 rfl ?_
  refine x_alenJ C (N := 129) (i := 128) (t := 1) rfl (by decide) rfl dJ7_fill_d0a16_3 ?_
  refine x_istore C.1 (lv' := [(4, vI 13), (3, vI 0), (0, .ref (ad 128)), (1, vJ x1)]) dJ7_fill_d0a16_4 (by decide) rfl ?_
  obtain ⟨bd15, hbd15, hF⟩ := lop2_ex hF
  refine x_loop (I := fun x : Int × (Nat → Nat → Int) => match x with | (z14, J15) => (0 ≤ z14 ∧ z14 ≤ 13) ∧ VJ J15 ∧ (∃ nf : Nat, (14 - z14).toNat < nf ∧ Imp (lop2 nf bd15 z14 J15) (f_s_fillO x1 V J Rr))) (μ := fun x : Int × (Nat → Nat → Int) => match x with | (z14, J15) => (14 - z14).toNat) (wsf := fun x : Int × (Nat → Nat → Int) => match x with | (z14, J15) => XW cy ad V J15 Rr) (lvf := fun x : Int × (Nat → Nat → Int) => match x with | (z14, J15) => [(4, vI 13), (3, vI z14), (0, .ref (ad 128)), (1, vJ x1)]) (fun x hI15x ih15 => ?_) (0, J) ⟨⟨by decide, by decide⟩, hJ, ⟨_, (by omega), hF⟩⟩ rfl rfl
  obtain ⟨z14, J15⟩ := x
  obtain ⟨bz14, hJ15, nf15, hn15, hF⟩ := hI15x
  try dsimp only
  obtain ⟨nf15, rfl⟩ : ∃ mm, nf15 = mm + 1 := ⟨nf15 - 1, (Nat.succ_pred_eq_of_pos (Nat.lt_of_le_of_lt (Nat.zero_le _) hn15)).symm⟩
  replace hF := hF.to (lop2_s hbd15)
  refine x_iload_n C.1 dJ7_fill_d0a16_6 1 rfl ?_
  refine x_iload C.1 dJ7_fill_d0a16_7 0 rfl ?_
  refine x_icmp_ge C.1 (tgt := 22) dJ7_fill_d0a16_9 (by decide) (by omega) (by decide) (fun hc18 => ?_) (fun hc18 => ?_)
  · replace hF := hF.to (if_pos hc18)
    exact x_vret (S := xS) (post := (fun u : xS => XS G u ∧ FB (fun _ _ => False) V u.1 ∧ RK u.2.2 Rr ∧ (f_s_fillO x1 V J Rr) u)) (w1 := (fun u : xS => XW cy ad u.1 u.2.1 u.2.2)) C hr rfl dJ7_fill_d0a16_22 (V, J15, Rr) rfl ⟨⟨hI, hJ15, hR⟩, hB, (RK.rf _), hF _ rfl⟩
  · replace hF := hF.to (if_neg hc18)
    refine x_aload_n C.1 dJ7_fill_d0a16_12 2 rfl ?_
    refine x_iload_n C.1 dJ7_fill_d0a16_13 1 rfl ?_
    refine x_lload_n C.1 dJ7_fill_d0a16_14 3 rfl ?_
    refine x_last C (N := 129) (i := 128) (q := z14) (a := x1) (by decide) rfl (by omega) (by decide) dJ7_fill_d0a16_15 ?_
    refine x_gJ ?_
    intro J19 hJe19
    have hJ19 : VJ J19 := hJ15.upS hJe19 (by omega)
    replace hF := hF.to (rdb_e (z := J19) hJe19.symm)
    refine x_iinc C.1 (v := z14 + 1) (lv' := [(3, vI (z14 + 1)), (4, vI 13), (0, .ref (ad 128)), (1, vJ x1)]) (by omega) dJ7_fill_d0a16_16 1 rfl (by decide) rfl ?_
    refine x_goto C.1 (tgt := 6) dJ7_fill_d0a16_19 (by decide) ?_
    refine x_lv [(4, vI 13), (3, vI (z14 + 1)), (0, .ref (ad 128)), (1, vJ x1)] [1, 0, 2, 3] rfl ?_
    have hmu15 : (14 - (z14 + 1)).toNat < (14 - z14).toNat := (by omega)
    exact ih15 (z14 + 1, J19) ⟨⟨by omega, by omega⟩, hJ19, ⟨nf15, Nat.lt_of_lt_of_le hmu15 (Nat.le_of_lt_succ hn15), hF⟩⟩ hmu15
set_option maxRecDepth 100000 in
def f_s_fillW (k0 : Nat) (x1 : Int) (V : Nat → Nat → Int) (J : Nat → Nat → Int) (Rr : Nat → Nat → Nat) : (xS) → Prop :=
  lop2 (477) (fun rc15 (z14 : Int) (J15 : Nat → Nat → Int) => (if 475 ≤ z14 then rtn (V, J15, Rr) else rdb (up2 J15 k0 z14.toNat x1) fun J19 => rc15 (z14 + 1) J19)) 0 J
set_option maxHeartbeats 8000000 in
set_option maxRecDepth 100000 in
theorem s_fillW (l : Launch) (D : va_G) (cy : Nat → ClassId) (ad : Nat → Nat) (G : Nat → Nat → Int) (V J : Nat → Nat → Int) (Rr : Nat → Nat → Nat) (hI : XI G V) (hJ : VJ J) (hR : XR Rr) (k0 : Nat) (hk0 : isW k0) (x1 : Int) (bx1 : -9223372036854775808 ≤ x1 ∧ x1 ≤ 9223372036854775807) : xMv l D (xTY cy) yJ7_fill_d0a16 cJ7_fill_d0a16 5 none 0 0 0 0 [.ref (ad k0), vJ x1] (XW cy ad V J Rr) (fun u : xS => XW cy ad u.1 u.2.1 u.2.2) (fun u : xS => XS G u ∧ FB (fun _ _ => False) V u.1 ∧ RK u.2.2 Rr ∧ (f_s_fillW k0 x1 V J Rr) u) := by
  refine xMv.mk (lv0 := [(0, .ref (ad k0)), (1, vJ x1)]) (by decide) rfl (Nat.le_of_ble_eq_true rfl) (fun p e s m below meth c A C hr hnm hAe => ?_)
  have C : xC2 p s m _ meth c D A s.heap 5 cJ7_fill_d0a16 RJ7 (xTY cy) := C
  have hB : FB (fun _ _ => False) V V := FB.rf _ _
  have hF := Imp.of_eq (f_s_fillW.eq_def k0 x1 V J Rr)
  refine x_iconst C.1 (n := 0) dJ7_fill_d0a16_0 ?_
  refine x_istore_n C.1 (lv' := [(3, vI 0), (0, .ref (ad k0)), (1, vJ x1)]) dJ7_fill_d0a16_1 (by decide) rfl ?_
  refine x_aload_n C.1 dJ7_fill_d0a16_2 1 rfl ?_
  refine x_alenJ C (N := 129) (i := k0) (t := 1) rfl (by omega) (xd_Wt hk0) dJ7_fill_d0a16_3 ?_
  refine x_istore C.1 (lv' := [(4, vI 475), (3, vI 0), (0, .ref (ad k0)), (1, vJ x1)]) dJ7_fill_d0a16_4 (by decide) rfl ?_
  obtain ⟨bd15, hbd15, hF⟩ := lop2_ex hF
  refine x_loop (I := fun x : Int × (Nat → Nat → Int) => match x with | (z14, J15) => (0 ≤ z14 ∧ z14 ≤ 475) ∧ VJ J15 ∧ (∃ nf : Nat, (476 - z14).toNat < nf ∧ Imp (lop2 nf bd15 z14 J15) (f_s_fillW k0 x1 V J Rr))) (μ := fun x : Int × (Nat → Nat → Int) => match x with | (z14, J15) => (476 - z14).toNat) (wsf := fun x : Int × (Nat → Nat → Int) => match x with | (z14, J15) => XW cy ad V J15 Rr) (lvf := fun x : Int × (Nat → Nat → Int) => match x with | (z14, J15) => [(4, vI 475), (3, vI z14), (0, .ref (ad k0)), (1, vJ x1)]) (fun x hI15x ih15 => ?_) (0, J) ⟨⟨by decide, by decide⟩, hJ, ⟨_, (by omega), hF⟩⟩ rfl rfl
  obtain ⟨z14, J15⟩ := x
  obtain ⟨bz14, hJ15, nf15, hn15, hF⟩ := hI15x
  try dsimp only
  obtain ⟨nf15, rfl⟩ : ∃ mm, nf15 = mm + 1 := ⟨nf15 - 1, (Nat.succ_pred_eq_of_pos (Nat.lt_of_le_of_lt (Nat.zero_le _) hn15)).symm⟩
  replace hF := hF.to (lop2_s hbd15)
  refine x_iload_n C.1 dJ7_fill_d0a16_6 1 rfl ?_
  refine x_iload C.1 dJ7_fill_d0a16_7 0 rfl ?_
  refine x_icmp_ge C.1 (tgt := 22) dJ7_fill_d0a16_9 (by decide) (by omega) (by decide) (fun hc18 => ?_) (fun hc18 => ?_)
  · replace hF := hF.to (if_pos hc18)
    exact x_vret (S := xS) (post := (fun u : xS => XS G u ∧ FB (fun _ _ => False) V u.1 ∧ RK u.2.2 Rr ∧ (f_s_fillW k0 x1 V J Rr) u)) (w1 := (fun u : xS => XW cy ad u.1 u.2.1 u.2.2)) C hr rfl dJ7_fill_d0a16_22 (V, J15, Rr) rfl ⟨⟨hI, hJ15, hR⟩, hB, (RK.rf _), hF _ rfl⟩
  · replace hF := hF.to (if_neg hc18)
    refine x_aload_n C.1 dJ7_fill_d0a16_12 2 rfl ?_
    refine x_iload_n C.1 dJ7_fill_d0a16_13 1 rfl ?_
    refine x_lload_n C.1 dJ7_fill_d0a16_14 3 rfl ?_
    refine x_last C (N := 129) (i := k0) (q := z14) (a := x1) (by omega) (xd_Wt hk0) (by omega) (by decide) dJ7_fill_d0a16_15 ?_
    refine x_gJ ?_
    intro J19 hJe19
    have hJ19 : VJ J19 := hJ15.upS hJe19 (by omega)
    replace hF := hF.to (rdb_e (z := J19) hJe19.symm)
    refine x_iinc C.1 (v := z14 + 1) (lv' := [(3, vI (z14 + 1)), (4, vI 475), (0, .ref (ad k0)), (1, vJ x1)]) (by omega) dJ7_fill_d0a16_16 1 rfl (by decide) rfl ?_
    refine x_goto C.1 (tgt := 6) dJ7_fill_d0a16_19 (by decide) ?_
    refine x_lv [(4, vI 475), (3, vI (z14 + 1)), (0, .ref (ad k0)), (1, vJ x1)] [1, 0, 2, 3] rfl ?_
    have hmu15 : (476 - (z14 + 1)).toNat < (476 - z14).toNat := (by omega)
    exact ih15 (z14 + 1, J19) ⟨⟨by omega, by omega⟩, hJ19, ⟨nf15, Nat.lt_of_lt_of_le hmu15 (Nat.le_of_lt_succ hn15), hF⟩⟩ hmu15
