theorem dX11_theOne_0 : decode cX11_theOne 0 = .ok (.bipush (-2), 2) := by decide +kernel
theorem dX11_theOne_2 : decode cX11_theOne 2 = .ok (.istore_n 1, 1) := by decide +kernel
theorem dX11_theOne_3 : decode cX11_theOne 3 = .ok (.iconst 0, 1) := by decide +kernel
theorem dX11_theOne_4 : decode cX11_theOne 4 = .ok (.istore_n 2, 1) := by decide +kernel
theorem dX11_theOne_5 : decode cX11_theOne 5 = .ok (.iconst 0, 1) := by decide +kernel
theorem dX11_theOne_6 : decode cX11_theOne 6 = .ok (.istore_n 3, 1) := by decide +kernel
theorem dX11_theOne_7 : decode cX11_theOne 7 = .ok (.iload_n 3, 1) := by decide +kernel
theorem dX11_theOne_8 : decode cX11_theOne 8 = .ok (.bipush 8, 2) := by decide +kernel
theorem dX11_theOne_10 : decode cX11_theOne 10 = .ok (.if_icmp .ge 40, 3) := by decide +kernel
theorem dX11_theOne_13 : decode cX11_theOne 13 = .ok (.aload_n 0, 1) := by decide +kernel
theorem dX11_theOne_14 : decode cX11_theOne 14 = .ok (.getfield 10, 3) := by decide +kernel
theorem dX11_theOne_17 : decode cX11_theOne 17 = .ok (.getfield 146, 3) := by decide +kernel
theorem dX11_theOne_20 : decode cX11_theOne 20 = .ok (.iload_n 3, 1) := by decide +kernel
theorem dX11_theOne_21 : decode cX11_theOne 21 = .ok (.aaload, 1) := by decide +kernel
theorem dX11_theOne_22 : decode cX11_theOne 22 = .ok (.getfield 150, 3) := by decide +kernel
theorem dX11_theOne_25 : decode cX11_theOne 25 = .ok (.iload_n 2, 1) := by decide +kernel
theorem dX11_theOne_26 : decode cX11_theOne 26 = .ok (.if_icmp .le 18, 3) := by decide +kernel
theorem dX11_theOne_44 : decode cX11_theOne 44 = .ok (.iinc 3 1, 3) := by decide +kernel
theorem dX11_theOne_47 : decode cX11_theOne 47 = .ok (.goto (-40), 3) := by decide +kernel
theorem dX11_theOne_50 : decode cX11_theOne 50 = .ok (.iload_n 1, 1) := by decide +kernel
theorem dX11_theOne_51 : decode cX11_theOne 51 = .ok (.ireturn, 1) := by decide +kernel
set_option maxHeartbeats 4000000 in
set_option maxRecDepth 100000 in
theorem f_theOne (l : Launch) (D : va_G) (cy : Nat → ClassId) (ad : Nat → Nat) (V J : Nat → Nat → Int) (Rr : Nat → Nat → Nat) (hV : VR V) (hJ : VJ J)  (hnp : NPl V 1) (hne : NPe V 1) (htl : V 58 1 = 0) (hgv : ∀ q, q < 8 → V (1 + 11 + 1 * q) 3 = 0) : xMi l D (xTY cy) yX11_theOne cX11_theOne 4 (some .int) 0 0 0 0 [.ref (ad 0)] (XW cy ad V J Rr) (fun _ : Unit => XW cy ad V J Rr) (fun r _ => r = -2) := by
  refine xMi.mk (lv0 := [(0, .ref (ad 0))]) (by decide) rfl (Nat.le_of_ble_eq_true rfl) (fun p e s m below meth c A C hr hnm hAe => ?_)
  have C : xC2 p s m _ meth c D A s.heap 4 cX11_theOne RX11 (xTY cy) := C
  refine x_bipush C.1 (n := -2) dX11_theOne_0 ?_
  refine x_istore_n C.1 (lv' := [(1, vI (-2)), (0, .ref (ad 0))]) dX11_theOne_2 (by decide) rfl ?_
  refine x_iconst C.1 (n := 0) dX11_theOne_3 ?_
  refine x_istore_n C.1 (lv' := [(2, vI 0), (1, vI (-2)), (0, .ref (ad 0))]) dX11_theOne_4 (by decide) rfl ?_
  refine x_iconst C.1 (n := 0) dX11_theOne_5 ?_
  refine x_istore_n C.1 (lv' := [(3, vI 0), (2, vI 0), (1, vI (-2)), (0, .ref (ad 0))]) dX11_theOne_6 (by decide) rfl ?_
  refine x_iload_n C.1 dX11_theOne_7 0 rfl ?_
  refine x_bipush C.1 (n := 8) dX11_theOne_8 ?_
  refine x_icmp_ge_f C.1 (tgt := 50) dX11_theOne_10 (by decide) (by decide) (by decide) (by decide) ?_
  refine x_aload_n C.1 dX11_theOne_13 3 rfl ?_
  refine x_getA C (N := 129) (i := 0) (by decide) rfl vc_X11 wx_X11 0 (by decide) wf_X11_10 (a := 1) rfl dX11_theOne_14 ?_
  refine x_getA C (N := 129) (i := 1) (by omega) (xd_L (Or.inl rfl)) vc_X3 wx_X3 1 (by decide) wf_X11_146 (a := 3) rfl dX11_theOne_17 ?_
  refine x_iload_n C.1 dX11_theOne_20 0 rfl ?_
  refine x_aldS C (N := 129) (i := 3) (q := 0) (t := 5) rfl (by omega) (xd_Lb (Or.inl rfl)) (by decide) (by decide) dX11_theOne_21 (a := 1 + 11 + 1 * 0) rfl ?_
  refine x_getI C (N := 129) (i := 1 + 11 + 1 * 0) (isPe_L (Or.inl rfl) (q := 0) (by omega)).1 (isPe_L (Or.inl rfl) (q := 0) (by omega)).2 vc_X4 wx_X4 3 (by decide) wf_X11_150 rfl dX11_theOne_22 (a := 0) (hgv 0 (by decide)) ?_
  refine x_iload_n C.1 dX11_theOne_25 1 rfl ?_
  refine x_icmp_le_t C.1 (tgt := 44) dX11_theOne_26 (by decide) (by decide) (by decide) (by decide) ?_
  refine x_iinc C.1 (v := 1) (lv' := [(3, vI 1), (2, vI 0), (1, vI (-2)), (0, .ref (ad 0))]) (by decide) dX11_theOne_44 0 rfl (by decide) rfl ?_
  refine x_goto C.1 (tgt := 7) dX11_theOne_47 (by decide) ?_
  refine x_iload_n C.1 dX11_theOne_7 0 rfl ?_
  refine x_bipush C.1 (n := 8) dX11_theOne_8 ?_
  refine x_icmp_ge_f C.1 (tgt := 50) dX11_theOne_10 (by decide) (by decide) (by decide) (by decide) ?_
  refine x_aload_n C.1 dX11_theOne_13 3 rfl ?_
  refine x_getA C (N := 129) (i := 0) (by decide) rfl vc_X11 wx_X11 0 (by decide) wf_X11_10 (a := 1) rfl dX11_theOne_14 ?_
  refine x_getA C (N := 129) (i := 1) (by omega) (xd_L (Or.inl rfl)) vc_X3 wx_X3 1 (by decide) wf_X11_146 (a := 3) rfl dX11_theOne_17 ?_
  refine x_iload_n C.1 dX11_theOne_20 0 rfl ?_
  refine x_aldS C (N := 129) (i := 3) (q := 1) (t := 5) rfl (by omega) (xd_Lb (Or.inl rfl)) (by decide) (by decide) dX11_theOne_21 (a := 1 + 11 + 1 * 1) rfl ?_
  refine x_getI C (N := 129) (i := 1 + 11 + 1 * 1) (isPe_L (Or.inl rfl) (q := 1) (by omega)).1 (isPe_L (Or.inl rfl) (q := 1) (by omega)).2 vc_X4 wx_X4 3 (by decide) wf_X11_150 rfl dX11_theOne_22 (a := 0) (hgv 1 (by decide)) ?_
  refine x_iload_n C.1 dX11_theOne_25 1 rfl ?_
  refine x_icmp_le_t C.1 (tgt := 44) dX11_theOne_26 (by decide) (by decide) (by decide) (by decide) ?_
  refine x_iinc C.1 (v := 2) (lv' := [(3, vI 2), (2, vI 0), (1, vI (-2)), (0, .ref (ad 0))]) (by decide) dX11_theOne_44 0 rfl (by decide) rfl ?_
  refine x_goto C.1 (tgt := 7) dX11_theOne_47 (by decide) ?_
  refine x_iload_n C.1 dX11_theOne_7 0 rfl ?_
  refine x_bipush C.1 (n := 8) dX11_theOne_8 ?_
  refine x_icmp_ge_f C.1 (tgt := 50) dX11_theOne_10 (by decide) (by decide) (by decide) (by decide) ?_
  refine x_aload_n C.1 dX11_theOne_13 3 rfl ?_
  refine x_getA C (N := 129) (i := 0) (by decide) rfl vc_X11 wx_X11 0 (by decide) wf_X11_10 (a := 1) rfl dX11_theOne_14 ?_
  refine x_getA C (N := 129) (i := 1) (by omega) (xd_L (Or.inl rfl)) vc_X3 wx_X3 1 (by decide) wf_X11_146 (a := 3) rfl dX11_theOne_17 ?_
  refine x_iload_n C.1 dX11_theOne_20 0 rfl ?_
  refine x_aldS C (N := 129) (i := 3) (q := 2) (t := 5) rfl (by omega) (xd_Lb (Or.inl rfl)) (by decide) (by decide) dX11_theOne_21 (a := 1 + 11 + 1 * 2) rfl ?_
  refine x_getI C (N := 129) (i := 1 + 11 + 1 * 2) (isPe_L (Or.inl rfl) (q := 2) (by omega)).1 (isPe_L (Or.inl rfl) (q := 2) (by omega)).2 vc_X4 wx_X4 3 (by decide) wf_X11_150 rfl dX11_theOne_22 (a := 0) (hgv 2 (by decide)) ?_
  refine x_iload_n C.1 dX11_theOne_25 1 rfl ?_
  refine x_icmp_le_t C.1 (tgt := 44) dX11_theOne_26 (by decide) (by decide) (by decide) (by decide) ?_
  refine x_iinc C.1 (v := 3) (lv' := [(3, vI 3), (2, vI 0), (1, vI (-2)), (0, .ref (ad 0))]) (by decide) dX11_theOne_44 0 rfl (by decide) rfl ?_
  refine x_goto C.1 (tgt := 7) dX11_theOne_47 (by decide) ?_
  refine x_iload_n C.1 dX11_theOne_7 0 rfl ?_
  refine x_bipush C.1 (n := 8) dX11_theOne_8 ?_
  refine x_icmp_ge_f C.1 (tgt := 50) dX11_theOne_10 (by decide) (by decide) (by decide) (by decide) ?_
  refine x_aload_n C.1 dX11_theOne_13 3 rfl ?_
  refine x_getA C (N := 129) (i := 0) (by decide) rfl vc_X11 wx_X11 0 (by decide) wf_X11_10 (a := 1) rfl dX11_theOne_14 ?_
  refine x_getA C (N := 129) (i := 1) (by omega) (xd_L (Or.inl rfl)) vc_X3 wx_X3 1 (by decide) wf_X11_146 (a := 3) rfl dX11_theOne_17 ?_
  refine x_iload_n C.1 dX11_theOne_20 0 rfl ?_
  refine x_aldS C (N := 129) (i := 3) (q := 3) (t := 5) rfl (by omega) (xd_Lb (Or.inl rfl)) (by decide) (by decide) dX11_theOne_21 (a := 1 + 11 + 1 * 3) rfl ?_
  refine x_getI C (N := 129) (i := 1 + 11 + 1 * 3) (isPe_L (Or.inl rfl) (q := 3) (by omega)).1 (isPe_L (Or.inl rfl) (q := 3) (by omega)).2 vc_X4 wx_X4 3 (by decide) wf_X11_150 rfl dX11_theOne_22 (a := 0) (hgv 3 (by decide)) ?_
  refine x_iload_n C.1 dX11_theOne_25 1 rfl ?_
  refine x_icmp_le_t C.1 (tgt := 44) dX11_theOne_26 (by decide) (by decide) (by decide) (by decide) ?_
  refine x_iinc C.1 (v := 4) (lv' := [(3, vI 4), (2, vI 0), (1, vI (-2)), (0, .ref (ad 0))]) (by decide) dX11_theOne_44 0 rfl (by decide) rfl ?_
  refine x_goto C.1 (tgt := 7) dX11_theOne_47 (by decide) ?_
  refine x_iload_n C.1 dX11_theOne_7 0 rfl ?_
  refine x_bipush C.1 (n := 8) dX11_theOne_8 ?_
  refine x_icmp_ge_f C.1 (tgt := 50) dX11_theOne_10 (by decide) (by decide) (by decide) (by decide) ?_
  refine x_aload_n C.1 dX11_theOne_13 3 rfl ?_
  refine x_getA C (N := 129) (i := 0) (by decide) rfl vc_X11 wx_X11 0 (by decide) wf_X11_10 (a := 1) rfl dX11_theOne_14 ?_
  refine x_getA C (N := 129) (i := 1) (by omega) (xd_L (Or.inl rfl)) vc_X3 wx_X3 1 (by decide) wf_X11_146 (a := 3) rfl dX11_theOne_17 ?_
  refine x_iload_n C.1 dX11_theOne_20 0 rfl ?_
  refine x_aldS C (N := 129) (i := 3) (q := 4) (t := 5) rfl (by omega) (xd_Lb (Or.inl rfl)) (by decide) (by decide) dX11_theOne_21 (a := 1 + 11 + 1 * 4) rfl ?_
  refine x_getI C (N := 129) (i := 1 + 11 + 1 * 4) (isPe_L (Or.inl rfl) (q := 4) (by omega)).1 (isPe_L (Or.inl rfl) (q := 4) (by omega)).2 vc_X4 wx_X4 3 (by decide) wf_X11_150 rfl dX11_theOne_22 (a := 0) (hgv 4 (by decide)) ?_
  refine x_iload_n C.1 dX11_theOne_25 1 rfl ?_
  refine x_icmp_le_t C.1 (tgt := 44) dX11_theOne_26 (by decide) (by decide) (by decide) (by decide) ?_
  refine x_iinc C.1 (v := 5) (lv' := [(3, vI 5), (2, vI 0), (1, vI (-2)), (0, .ref (ad 0))]) (by decide) dX11_theOne_44 0 rfl (by decide) rfl ?_
  refine x_goto C.1 (tgt := 7) dX11_theOne_47 (by decide) ?_
  refine x_iload_n C.1 dX11_theOne_7 0 rfl ?_
  refine x_bipush C.1 (n := 8) dX11_theOne_8 ?_
  refine x_icmp_ge_f C.1 (tgt := 50) dX11_theOne_10 (by decide) (by decide) (by decide) (by decide) ?_
  refine x_aload_n C.1 dX11_theOne_13 3 rfl ?_
  refine x_getA C (N := 129) (i := 0) (by decide) rfl vc_X11 wx_X11 0 (by decide) wf_X11_10 (a := 1) rfl dX11_theOne_14 ?_
  refine x_getA C (N := 129) (i := 1) (by omega) (xd_L (Or.inl rfl)) vc_X3 wx_X3 1 (by decide) wf_X11_146 (a := 3) rfl dX11_theOne_17 ?_
  refine x_iload_n C.1 dX11_theOne_20 0 rfl ?_
  refine x_aldS C (N := 129) (i := 3) (q := 5) (t := 5) rfl (by omega) (xd_Lb (Or.inl rfl)) (by decide) (by decide) dX11_theOne_21 (a := 1 + 11 + 1 * 5) rfl ?_
  refine x_getI C (N := 129) (i := 1 + 11 + 1 * 5) (isPe_L (Or.inl rfl) (q := 5) (by omega)).1 (isPe_L (Or.inl rfl) (q := 5) (by omega)).2 vc_X4 wx_X4 3 (by decide) wf_X11_150 rfl dX11_theOne_22 (a := 0) (hgv 5 (by decide)) ?_
  refine x_iload_n C.1 dX11_theOne_25 1 rfl ?_
  refine x_icmp_le_t C.1 (tgt := 44) dX11_theOne_26 (by decide) (by decide) (by decide) (by decide) ?_
  refine x_iinc C.1 (v := 6) (lv' := [(3, vI 6), (2, vI 0), (1, vI (-2)), (0, .ref (ad 0))]) (by decide) dX11_theOne_44 0 rfl (by decide) rfl ?_
  refine x_goto C.1 (tgt := 7) dX11_theOne_47 (by decide) ?_
  refine x_iload_n C.1 dX11_theOne_7 0 rfl ?_
  refine x_bipush C.1 (n := 8) dX11_theOne_8 ?_
  refine x_icmp_ge_f C.1 (tgt := 50) dX11_theOne_10 (by decide) (by decide) (by decide) (by decide) ?_
  refine x_aload_n C.1 dX11_theOne_13 3 rfl ?_
  refine x_getA C (N := 129) (i := 0) (by decide) rfl vc_X11 wx_X11 0 (by decide) wf_X11_10 (a := 1) rfl dX11_theOne_14 ?_
  refine x_getA C (N := 129) (i := 1) (by omega) (xd_L (Or.inl rfl)) vc_X3 wx_X3 1 (by decide) wf_X11_146 (a := 3) rfl dX11_theOne_17 ?_
  refine x_iload_n C.1 dX11_theOne_20 0 rfl ?_
  refine x_aldS C (N := 129) (i := 3) (q := 6) (t := 5) rfl (by omega) (xd_Lb (Or.inl rfl)) (by decide) (by decide) dX11_theOne_21 (a := 1 + 11 + 1 * 6) rfl ?_
  refine x_getI C (N := 129) (i := 1 + 11 + 1 * 6) (isPe_L (Or.inl rfl) (q := 6) (by omega)).1 (isPe_L (Or.inl rfl) (q := 6) (by omega)).2 vc_X4 wx_X4 3 (by decide) wf_X11_150 rfl dX11_theOne_22 (a := 0) (hgv 6 (by decide)) ?_
  refine x_iload_n C.1 dX11_theOne_25 1 rfl ?_
  refine x_icmp_le_t C.1 (tgt := 44) dX11_theOne_26 (by decide) (by decide) (by decide) (by decide) ?_
  refine x_iinc C.1 (v := 7) (lv' := [(3, vI 7), (2, vI 0), (1, vI (-2)), (0, .ref (ad 0))]) (by decide) dX11_theOne_44 0 rfl (by decide) rfl ?_
  refine x_goto C.1 (tgt := 7) dX11_theOne_47 (by decide) ?_
  refine x_iload_n C.1 dX11_theOne_7 0 rfl ?_
  refine x_bipush C.1 (n := 8) dX11_theOne_8 ?_
  refine x_icmp_ge_f C.1 (tgt := 50) dX11_theOne_10 (by decide) (by decide) (by decide) (by decide) ?_
  refine x_aload_n C.1 dX11_theOne_13 3 rfl ?_
  refine x_getA C (N := 129) (i := 0) (by decide) rfl vc_X11 wx_X11 0 (by decide) wf_X11_10 (a := 1) rfl dX11_theOne_14 ?_
  refine x_getA C (N := 129) (i := 1) (by omega) (xd_L (Or.inl rfl)) vc_X3 wx_X3 1 (by decide) wf_X11_146 (a := 3) rfl dX11_theOne_17 ?_
  refine x_iload_n C.1 dX11_theOne_20 0 rfl ?_
  refine x_aldS C (N := 129) (i := 3) (q := 7) (t := 5) rfl (by omega) (xd_Lb (Or.inl rfl)) (by decide) (by decide) dX11_theOne_21 (a := 1 + 11 + 1 * 7) rfl ?_
  refine x_getI C (N := 129) (i := 1 + 11 + 1 * 7) (isPe_L (Or.inl rfl) (q := 7) (by omega)).1 (isPe_L (Or.inl rfl) (q := 7) (by omega)).2 vc_X4 wx_X4 3 (by decide) wf_X11_150 rfl dX11_theOne_22 (a := 0) (hgv 7 (by decide)) ?_
  refine x_iload_n C.1 dX11_theOne_25 1 rfl ?_
  refine x_icmp_le_t C.1 (tgt := 44) dX11_theOne_26 (by decide) (by decide) (by decide) (by decide) ?_
  refine x_iinc C.1 (v := 8) (lv' := [(3, vI 8), (2, vI 0), (1, vI (-2)), (0, .ref (ad 0))]) (by decide) dX11_theOne_44 0 rfl (by decide) rfl ?_
  refine x_goto C.1 (tgt := 7) dX11_theOne_47 (by decide) ?_
  refine x_iload_n C.1 dX11_theOne_7 0 rfl ?_
  refine x_bipush C.1 (n := 8) dX11_theOne_8 ?_
  refine x_icmp_ge_t C.1 (tgt := 50) dX11_theOne_10 (by decide) (by decide) (by decide) (by decide) ?_
  refine x_iload_n C.1 dX11_theOne_50 2 rfl ?_
  exact x_iret (S := Unit) (post := fun r _ => r = -2) (w1 := fun _ : Unit => XW cy ad V J Rr) (a := (-2)) C hr rfl dX11_theOne_51 (by decide) () rfl (by omega)
theorem hd_yX11_theOne : yX11_theOne.cls ≠ "java/lang/invoke/MethodHandle" ∧ yX11_theOne.cls ≠ "java/lang/invoke/VarHandle" ∧ (parseMethodDescriptor yX11_theOne.desc).map (fun d => d.parameters.length) = some 0 := by decide +kernel
theorem dX11_share_0 : decode cX11_share 0 = .ok (.iload_n 1, 1) := by decide +kernel
theorem dX11_share_1 : decode cX11_share 1 = .ok (.iconst (-1), 1) := by decide +kernel
theorem dX11_share_2 : decode cX11_share 2 = .ok (.if_icmp .ne 12, 3) := by decide +kernel
theorem dX11_share_5 : decode cX11_share 5 = .ok (.iload_n 2, 1) := by decide +kernel
theorem dX11_share_6 : decode cX11_share 6 = .ok (.ifCond .ne 8, 3) := by decide +kernel
theorem dX11_share_9 : decode cX11_share 9 = .ok (.aload_n 0, 1) := by decide +kernel
theorem dX11_share_10 : decode cX11_share 10 = .ok (.invokevirtual 288, 3) := by decide +kernel
theorem dX11_share_13 : decode cX11_share 13 = .ok (.ireturn, 1) := by decide +kernel
theorem dX11_share_14 : decode cX11_share 14 = .ok (.aload_n 0, 1) := by decide +kernel
theorem dX11_share_15 : decode cX11_share 15 = .ok (.getfield 10, 3) := by decide +kernel
theorem dX11_share_18 : decode cX11_share 18 = .ok (.iload_n 1, 1) := by decide +kernel
theorem dX11_share_19 : decode cX11_share 19 = .ok (.invokevirtual 168, 3) := by decide +kernel
theorem dX11_share_22 : decode cX11_share 22 = .ok (.ifCond .eq 12, 3) := by decide +kernel
theorem dX11_share_34 : decode cX11_share 34 = .ok (.iconst (-1), 1) := by decide +kernel
theorem dX11_share_35 : decode cX11_share 35 = .ok (.ireturn, 1) := by decide +kernel
set_option maxHeartbeats 4000000 in
set_option maxRecDepth 100000 in
theorem f_share (l : Launch) (D : va_G) (cy : Nat → ClassId) (ad : Nat → Nat) (V J : Nat → Nat → Int) (Rr : Nat → Nat → Nat) (hV : VR V) (hJ : VJ J) (x1 x2 : Int) (hx1 : R32 x1) (hx2 : R32 x2) (hnp : NPl V 1) (hne : NPe V 1) (htl : V 58 1 = 0) (hgv : ∀ q, q < 8 → V (1 + 11 + 1 * q) 3 = 0) : xMi l D (xTY cy) yX11_share cX11_share 5 (some .int) 2 42 0 0 [.ref (ad 0), vI x1, vI x2] (XW cy ad V J Rr) (fun _ : Unit => XW cy ad V J Rr) (fun r _ => (x1 = -1 ∧ x2 = 0 ∧ r = -2) ∨ (¬ (x1 = -1 ∧ x2 = 0) ∧ r = -1)) := by
  refine xMi.mk (lv0 := [(0, .ref (ad 0)), (1, vI x1), (2, vI x2)]) (by decide) rfl (Nat.le_of_ble_eq_true rfl) (fun p e s m below meth c A C hr hnm hAe => ?_)
  have C : xC2 p s m _ meth c D A s.heap 5 cX11_share RX11 (xTY cy) := C
  refine x_iload_n C.1 dX11_share_0 1 rfl ?_
  refine x_iconst C.1 (n := -1) dX11_share_1 ?_
  refine x_icmp_ne C.1 (tgt := 14) dX11_share_2 (by decide) hx1 (by decide) (fun c2_1 => ?_) (fun c2_1 => ?_)
  · refine x_aload_n C.1 dX11_share_14 0 rfl ?_
    refine x_getA C (N := 129) (i := 0) (by decide) rfl vc_X11 wx_X11 0 (by decide) wf_X11_10 (a := 1) rfl dX11_share_15 ?_
    refine x_iload_n C.1 dX11_share_18 1 rfl ?_
    refine x_callVi C (As := [vI x1]) (rest := []) 1 (xw_at (N := 129) (i := 1) (by omega) (xd_L (Or.inl rfl))) vc_X3 (c_isPerson l D cy ad V J Rr hV hJ 1 (Or.inl rfl) x1 hx1) (l1 := []) (l2 := []) (List.append_nil _).symm (w2 := fun _ => XW cy ad V J Rr) (fun _ => List.append_nil _) rfl wm_yX3_isPerson wn_X3 wl_X11_168 wi_yX3_isPerson we_yX3_isPerson hd_yX3_isPerson rfl ⟨Nat.le_of_ble_eq_true rfl, Nat.le_of_ble_eq_true rfl⟩ (Nat.le_of_ble_eq_true rfl) ⟨Nat.le_of_ble_eq_true rfl, Nat.le_of_ble_eq_true rfl⟩ dX11_share_19 (fun r2 u2 hr2 h2 => ?_)
    rcases h2 with ⟨rfl, t2, t2b, t2c⟩ | ⟨rfl, t2⟩
    · exact absurd (hne _ (by omega)) t2c
    · refine x_if_eq_t C.1 (tgt := 34) dX11_share_22 (by decide) (by decide) (by decide) ?_
      refine x_iconst C.1 (n := -1) dX11_share_34 ?_
      exact x_iret (S := Unit) (post := fun r _ => (x1 = -1 ∧ x2 = 0 ∧ r = -2) ∨ (¬ (x1 = -1 ∧ x2 = 0) ∧ r = -1)) (w1 := fun _ : Unit => XW cy ad V J Rr) (a := (-1)) C hr rfl dX11_share_35 (by decide) () rfl (by omega)
  · refine x_iload_n C.1 dX11_share_5 2 rfl ?_
    refine x_if_ne C.1 (tgt := 14) dX11_share_6 (by decide) hx2 (fun c6_3 => ?_) (fun c6_3 => ?_)
    · refine x_aload_n C.1 dX11_share_14 0 rfl ?_
      refine x_getA C (N := 129) (i := 0) (by decide) rfl vc_X11 wx_X11 0 (by decide) wf_X11_10 (a := 1) rfl dX11_share_15 ?_
      refine x_iload_n C.1 dX11_share_18 1 rfl ?_
      refine x_callVi C (As := [vI x1]) (rest := []) 1 (xw_at (N := 129) (i := 1) (by omega) (xd_L (Or.inl rfl))) vc_X3 (c_isPerson l D cy ad V J Rr hV hJ 1 (Or.inl rfl) x1 hx1) (l1 := []) (l2 := []) (List.append_nil _).symm (w2 := fun _ => XW cy ad V J Rr) (fun _ => List.append_nil _) rfl wm_yX3_isPerson wn_X3 wl_X11_168 wi_yX3_isPerson we_yX3_isPerson hd_yX3_isPerson rfl ⟨Nat.le_of_ble_eq_true rfl, Nat.le_of_ble_eq_true rfl⟩ (Nat.le_of_ble_eq_true rfl) ⟨Nat.le_of_ble_eq_true rfl, Nat.le_of_ble_eq_true rfl⟩ dX11_share_19 (fun r4 u4 hr4 h4 => ?_)
      rcases h4 with ⟨rfl, t4, t4b, t4c⟩ | ⟨rfl, t4⟩
      · exact absurd (hne _ (by omega)) t4c
      · refine x_if_eq_t C.1 (tgt := 34) dX11_share_22 (by decide) (by decide) (by decide) ?_
        refine x_iconst C.1 (n := -1) dX11_share_34 ?_
        exact x_iret (S := Unit) (post := fun r _ => (x1 = -1 ∧ x2 = 0 ∧ r = -2) ∨ (¬ (x1 = -1 ∧ x2 = 0) ∧ r = -1)) (w1 := fun _ : Unit => XW cy ad V J Rr) (a := (-1)) C hr rfl dX11_share_35 (by decide) () rfl (by omega)
    · refine x_aload_n C.1 dX11_share_9 0 rfl ?_
      refine x_callVi C (As := []) (rest := []) 0 (xw_at (N := 129) (i := 0) (by decide) rfl) vc_X11 (f_theOne l D cy ad V J Rr hV hJ   hnp hne htl hgv) (l1 := []) (l2 := []) (List.append_nil _).symm (w2 := fun _ => XW cy ad V J Rr) (fun _ => List.append_nil _) rfl wm_yX11_theOne wn_X11 wl_X11_288 wi_yX11_theOne we_yX11_theOne hd_yX11_theOne rfl ⟨Nat.le_of_ble_eq_true rfl, Nat.le_of_ble_eq_true rfl⟩ (Nat.le_of_ble_eq_true rfl) ⟨Nat.le_of_ble_eq_true rfl, Nat.le_of_ble_eq_true rfl⟩ dX11_share_10 (fun r5 u5 hr5 h5 => ?_)
      obtain rfl := h5
      exact x_iret (S := Unit) (post := fun r _ => (x1 = -1 ∧ x2 = 0 ∧ r = -2) ∨ (¬ (x1 = -1 ∧ x2 = 0) ∧ r = -1)) (w1 := fun _ : Unit => XW cy ad V J Rr) (a := (-2)) C hr rfl dX11_share_13 (by decide) () rfl (by omega)
theorem dX5_isDead_0 : decode cX5_isDead 0 = .ok (.aload_n 0, 1) := by decide +kernel
theorem dX5_isDead_1 : decode cX5_isDead 1 = .ok (.getfield 19, 3) := by decide +kernel
theorem dX5_isDead_4 : decode cX5_isDead 4 = .ok (.ifCond .eq 29, 3) := by decide +kernel
theorem dX5_isDead_33 : decode cX5_isDead 33 = .ok (.iconst 0, 1) := by decide +kernel
theorem dX5_isDead_34 : decode cX5_isDead 34 = .ok (.ireturn, 1) := by decide +kernel
set_option maxHeartbeats 4000000 in
set_option maxRecDepth 100000 in
theorem f_isDead (l : Launch) (D : va_G) (cy : Nat → ClassId) (ad : Nat → Nat) (V J : Nat → Nat → Int) (Rr : Nat → Nat → Nat) (hV : VR V) (hJ : VJ J) (ca : Nat) (hpl : isPl ca) (h0 : V ca 0 = 0) : xMi l D (xTY cy) yX5_isDead cX5_isDead 1 (some .boolean) 0 0 0 0 [.ref (ad ca)] (XW cy ad V J Rr) (fun _ : Unit => XW cy ad V J Rr) (fun r _ => r = 0) := by
  refine xMi.mk (lv0 := [(0, .ref (ad ca))]) (by decide) rfl (Nat.le_of_ble_eq_true rfl) (fun p e s m below meth c A C hr hnm hAe => ?_)
  have C : xC2 p s m _ meth c D A s.heap 1 cX5_isDead RX5 (xTY cy) := C
  refine x_aload_n C.1 dX5_isDead_0 0 rfl ?_
  refine x_getI C (N := 129) (i := ca) (Nat.lt_of_succ_lt hpl.1) hpl.2.1 vc_X5 wx_X5 0 (by decide) wf_X5_19 rfl dX5_isDead_1 (a := 0) h0 ?_
  refine x_if_eq_t C.1 (tgt := 33) dX5_isDead_4 (by decide) (by decide) (by decide) ?_
  refine x_iconst C.1 (n := 0) dX5_isDead_33 ?_
  exact x_zret (S := Unit) (post := fun r _ => r = 0) (w1 := fun _ : Unit => XW cy ad V J Rr) (a := 0) C hr rfl dX5_isDead_34 (by decide) () rfl (by omega)
theorem hd_yX5_isDead : yX5_isDead.cls ≠ "java/lang/invoke/MethodHandle" ∧ yX5_isDead.cls ≠ "java/lang/invoke/VarHandle" ∧ (parseMethodDescriptor yX5_isDead.desc).map (fun d => d.parameters.length) = some 0 := by decide +kernel
theorem dX3_toldPlants_0 : decode cX3_toldPlants 0 = .ok (.iconst 0, 1) := by decide +kernel
theorem dX3_toldPlants_1 : decode cX3_toldPlants 1 = .ok (.istore_n 1, 1) := by decide +kernel
theorem dX3_toldPlants_2 : decode cX3_toldPlants 2 = .ok (.iconst 0, 1) := by decide +kernel
theorem dX3_toldPlants_3 : decode cX3_toldPlants 3 = .ok (.istore_n 2, 1) := by decide +kernel
theorem dX3_toldPlants_4 : decode cX3_toldPlants 4 = .ok (.iload_n 2, 1) := by decide +kernel
theorem dX3_toldPlants_5 : decode cX3_toldPlants 5 = .ok (.iconst 4, 1) := by decide +kernel
theorem dX3_toldPlants_6 : decode cX3_toldPlants 6 = .ok (.if_icmp .ge 31, 3) := by decide +kernel
theorem dX3_toldPlants_9 : decode cX3_toldPlants 9 = .ok (.iload_n 1, 1) := by decide +kernel
theorem dX3_toldPlants_10 : decode cX3_toldPlants 10 = .ok (.aload_n 0, 1) := by decide +kernel
theorem dX3_toldPlants_11 : decode cX3_toldPlants 11 = .ok (.getfield 11, 3) := by decide +kernel
theorem dX3_toldPlants_14 : decode cX3_toldPlants 14 = .ok (.iload_n 2, 1) := by decide +kernel
theorem dX3_toldPlants_15 : decode cX3_toldPlants 15 = .ok (.aaload, 1) := by decide +kernel
theorem dX3_toldPlants_16 : decode cX3_toldPlants 16 = .ok (.getfield 59, 3) := by decide +kernel
theorem dX3_toldPlants_19 : decode cX3_toldPlants 19 = .ok (.ifCond .eq 9, 3) := by decide +kernel
theorem dX3_toldPlants_28 : decode cX3_toldPlants 28 = .ok (.iconst 0, 1) := by decide +kernel
theorem dX3_toldPlants_29 : decode cX3_toldPlants 29 = .ok (.ior, 1) := by decide +kernel
theorem dX3_toldPlants_30 : decode cX3_toldPlants 30 = .ok (.istore_n 1, 1) := by decide +kernel
theorem dX3_toldPlants_31 : decode cX3_toldPlants 31 = .ok (.iinc 2 1, 3) := by decide +kernel
theorem dX3_toldPlants_34 : decode cX3_toldPlants 34 = .ok (.goto (-30), 3) := by decide +kernel
theorem dX3_toldPlants_37 : decode cX3_toldPlants 37 = .ok (.iload_n 1, 1) := by decide +kernel
theorem dX3_toldPlants_38 : decode cX3_toldPlants 38 = .ok (.ireturn, 1) := by decide +kernel
set_option maxHeartbeats 4000000 in
set_option maxRecDepth 100000 in
theorem f_toldPlants (l : Launch) (D : va_G) (cy : Nat → ClassId) (ad : Nat → Nat) (V J : Nat → Nat → Int) (Rr : Nat → Nat → Nat) (hV : VR V) (hJ : VJ J) (b : Nat) (hb : isLa b) (hnp : NPl V b) : xMi l D (xTY cy) yX3_toldPlants cX3_toldPlants 3 (some .int) 0 0 0 0 [.ref (ad b)] (XW cy ad V J Rr) (fun _ : Unit => XW cy ad V J Rr) (fun r _ => r = 0) := by
  refine xMi.mk (lv0 := [(0, .ref (ad b))]) (by decide) rfl (Nat.le_of_ble_eq_true rfl) (fun p e s m below meth c A C hr hnm hAe => ?_)
  have C : xC2 p s m _ meth c D A s.heap 3 cX3_toldPlants RX3 (xTY cy) := C
  refine x_iconst C.1 (n := 0) dX3_toldPlants_0 ?_
  refine x_istore_n C.1 (lv' := [(1, vI 0), (0, .ref (ad b))]) dX3_toldPlants_1 (by decide) rfl ?_
  refine x_iconst C.1 (n := 0) dX3_toldPlants_2 ?_
  refine x_istore_n C.1 (lv' := [(2, vI 0), (1, vI 0), (0, .ref (ad b))]) dX3_toldPlants_3 (by decide) rfl ?_
  refine x_iload_n C.1 dX3_toldPlants_4 0 rfl ?_
  refine x_iconst C.1 (n := 4) dX3_toldPlants_5 ?_
  refine x_icmp_ge_f C.1 (tgt := 37) dX3_toldPlants_6 (by decide) (by decide) (by decide) (by decide) ?_
  refine x_iload_n C.1 dX3_toldPlants_9 1 rfl ?_
  refine x_aload_n C.1 dX3_toldPlants_10 2 rfl ?_
  refine x_getA C (N := 129) (i := b) (by omega) (xd_L hb) vc_X3 wx_X3 0 (by decide) wf_X3_11 (a := b + 1) rfl dX3_toldPlants_11 ?_
  refine x_iload_n C.1 dX3_toldPlants_14 0 rfl ?_
  refine x_aldS C (N := 129) (i := b + 1) (q := 0) (t := 4) rfl (by omega) (xd_La hb) (by decide) (by decide) dX3_toldPlants_15 (a := b + 3 + 2 * 0) rfl ?_
  refine x_getI C (N := 129) (i := b + 3 + 2 * 0) (Nat.lt_of_succ_lt (isPl_L hb (l := 0) (by omega)).1) (isPl_L hb (l := 0) (by omega)).2.1 vc_X5 wx_X5 0 (by decide) wf_X3_59 rfl dX3_toldPlants_16 (a := 0) (hnp 0 (by decide)) ?_
  refine x_if_eq_t C.1 (tgt := 28) dX3_toldPlants_19 (by decide) (by decide) (by decide) ?_
  refine x_iconst C.1 (n := 0) dX3_toldPlants_28 ?_
  refine x_ior C.1 (v := 0) (by decide) dX3_toldPlants_29 ?_
  refine x_istore_n C.1 (lv' := [(1, vI 0), (2, vI 0), (0, .ref (ad b))]) dX3_toldPlants_30 (by decide) rfl ?_
  refine x_iinc C.1 (v := 1) (lv' := [(2, vI 1), (1, vI 0), (0, .ref (ad b))]) (by decide) dX3_toldPlants_31 1 rfl (by decide) rfl ?_
  refine x_goto C.1 (tgt := 4) dX3_toldPlants_34 (by decide) ?_
  refine x_iload_n C.1 dX3_toldPlants_4 0 rfl ?_
  refine x_iconst C.1 (n := 4) dX3_toldPlants_5 ?_
  refine x_icmp_ge_f C.1 (tgt := 37) dX3_toldPlants_6 (by decide) (by decide) (by decide) (by decide) ?_
  refine x_iload_n C.1 dX3_toldPlants_9 1 rfl ?_
  refine x_aload_n C.1 dX3_toldPlants_10 2 rfl ?_
  refine x_getA C (N := 129) (i := b) (by omega) (xd_L hb) vc_X3 wx_X3 0 (by decide) wf_X3_11 (a := b + 1) rfl dX3_toldPlants_11 ?_
  refine x_iload_n C.1 dX3_toldPlants_14 0 rfl ?_
  refine x_aldS C (N := 129) (i := b + 1) (q := 1) (t := 4) rfl (by omega) (xd_La hb) (by decide) (by decide) dX3_toldPlants_15 (a := b + 3 + 2 * 1) rfl ?_
  refine x_getI C (N := 129) (i := b + 3 + 2 * 1) (Nat.lt_of_succ_lt (isPl_L hb (l := 1) (by omega)).1) (isPl_L hb (l := 1) (by omega)).2.1 vc_X5 wx_X5 0 (by decide) wf_X3_59 rfl dX3_toldPlants_16 (a := 0) (hnp 1 (by decide)) ?_
  refine x_if_eq_t C.1 (tgt := 28) dX3_toldPlants_19 (by decide) (by decide) (by decide) ?_
  refine x_iconst C.1 (n := 0) dX3_toldPlants_28 ?_
  refine x_ior C.1 (v := 0) (by decide) dX3_toldPlants_29 ?_
  refine x_istore_n C.1 (lv' := [(1, vI 0), (2, vI 1), (0, .ref (ad b))]) dX3_toldPlants_30 (by decide) rfl ?_
  refine x_iinc C.1 (v := 2) (lv' := [(2, vI 2), (1, vI 0), (0, .ref (ad b))]) (by decide) dX3_toldPlants_31 1 rfl (by decide) rfl ?_
  refine x_goto C.1 (tgt := 4) dX3_toldPlants_34 (by decide) ?_
  refine x_iload_n C.1 dX3_toldPlants_4 0 rfl ?_
  refine x_iconst C.1 (n := 4) dX3_toldPlants_5 ?_
  refine x_icmp_ge_f C.1 (tgt := 37) dX3_toldPlants_6 (by decide) (by decide) (by decide) (by decide) ?_
  refine x_iload_n C.1 dX3_toldPlants_9 1 rfl ?_
  refine x_aload_n C.1 dX3_toldPlants_10 2 rfl ?_
  refine x_getA C (N := 129) (i := b) (by omega) (xd_L hb) vc_X3 wx_X3 0 (by decide) wf_X3_11 (a := b + 1) rfl dX3_toldPlants_11 ?_
  refine x_iload_n C.1 dX3_toldPlants_14 0 rfl ?_
  refine x_aldS C (N := 129) (i := b + 1) (q := 2) (t := 4) rfl (by omega) (xd_La hb) (by decide) (by decide) dX3_toldPlants_15 (a := b + 3 + 2 * 2) rfl ?_
  refine x_getI C (N := 129) (i := b + 3 + 2 * 2) (Nat.lt_of_succ_lt (isPl_L hb (l := 2) (by omega)).1) (isPl_L hb (l := 2) (by omega)).2.1 vc_X5 wx_X5 0 (by decide) wf_X3_59 rfl dX3_toldPlants_16 (a := 0) (hnp 2 (by decide)) ?_
  refine x_if_eq_t C.1 (tgt := 28) dX3_toldPlants_19 (by decide) (by decide) (by decide) ?_
  refine x_iconst C.1 (n := 0) dX3_toldPlants_28 ?_
  refine x_ior C.1 (v := 0) (by decide) dX3_toldPlants_29 ?_
  refine x_istore_n C.1 (lv' := [(1, vI 0), (2, vI 2), (0, .ref (ad b))]) dX3_toldPlants_30 (by decide) rfl ?_
  refine x_iinc C.1 (v := 3) (lv' := [(2, vI 3), (1, vI 0), (0, .ref (ad b))]) (by decide) dX3_toldPlants_31 1 rfl (by decide) rfl ?_
  refine x_goto C.1 (tgt := 4) dX3_toldPlants_34 (by decide) ?_
  refine x_iload_n C.1 dX3_toldPlants_4 0 rfl ?_
  refine x_iconst C.1 (n := 4) dX3_toldPlants_5 ?_
  refine x_icmp_ge_f C.1 (tgt := 37) dX3_toldPlants_6 (by decide) (by decide) (by decide) (by decide) ?_
  refine x_iload_n C.1 dX3_toldPlants_9 1 rfl ?_
  refine x_aload_n C.1 dX3_toldPlants_10 2 rfl ?_
  refine x_getA C (N := 129) (i := b) (by omega) (xd_L hb) vc_X3 wx_X3 0 (by decide) wf_X3_11 (a := b + 1) rfl dX3_toldPlants_11 ?_
  refine x_iload_n C.1 dX3_toldPlants_14 0 rfl ?_
  refine x_aldS C (N := 129) (i := b + 1) (q := 3) (t := 4) rfl (by omega) (xd_La hb) (by decide) (by decide) dX3_toldPlants_15 (a := b + 3 + 2 * 3) rfl ?_
  refine x_getI C (N := 129) (i := b + 3 + 2 * 3) (Nat.lt_of_succ_lt (isPl_L hb (l := 3) (by omega)).1) (isPl_L hb (l := 3) (by omega)).2.1 vc_X5 wx_X5 0 (by decide) wf_X3_59 rfl dX3_toldPlants_16 (a := 0) (hnp 3 (by decide)) ?_
  refine x_if_eq_t C.1 (tgt := 28) dX3_toldPlants_19 (by decide) (by decide) (by decide) ?_
  refine x_iconst C.1 (n := 0) dX3_toldPlants_28 ?_
  refine x_ior C.1 (v := 0) (by decide) dX3_toldPlants_29 ?_
  refine x_istore_n C.1 (lv' := [(1, vI 0), (2, vI 3), (0, .ref (ad b))]) dX3_toldPlants_30 (by decide) rfl ?_
  refine x_iinc C.1 (v := 4) (lv' := [(2, vI 4), (1, vI 0), (0, .ref (ad b))]) (by decide) dX3_toldPlants_31 1 rfl (by decide) rfl ?_
  refine x_goto C.1 (tgt := 4) dX3_toldPlants_34 (by decide) ?_
  refine x_iload_n C.1 dX3_toldPlants_4 0 rfl ?_
  refine x_iconst C.1 (n := 4) dX3_toldPlants_5 ?_
  refine x_icmp_ge_t C.1 (tgt := 37) dX3_toldPlants_6 (by decide) (by decide) (by decide) (by decide) ?_
  refine x_iload_n C.1 dX3_toldPlants_37 1 rfl ?_
  exact x_iret (S := Unit) (post := fun r _ => r = 0) (w1 := fun _ : Unit => XW cy ad V J Rr) (a := 0) C hr rfl dX3_toldPlants_38 (by decide) () rfl (by omega)
theorem dX3_deadBits_0 : decode cX3_deadBits 0 = .ok (.iconst 0, 1) := by decide +kernel
theorem dX3_deadBits_1 : decode cX3_deadBits 1 = .ok (.istore_n 1, 1) := by decide +kernel
theorem dX3_deadBits_2 : decode cX3_deadBits 2 = .ok (.iconst 0, 1) := by decide +kernel
theorem dX3_deadBits_3 : decode cX3_deadBits 3 = .ok (.istore_n 2, 1) := by decide +kernel
theorem dX3_deadBits_4 : decode cX3_deadBits 4 = .ok (.iload_n 2, 1) := by decide +kernel
theorem dX3_deadBits_5 : decode cX3_deadBits 5 = .ok (.iconst 4, 1) := by decide +kernel
theorem dX3_deadBits_6 : decode cX3_deadBits 6 = .ok (.if_icmp .ge 31, 3) := by decide +kernel
theorem dX3_deadBits_9 : decode cX3_deadBits 9 = .ok (.iload_n 1, 1) := by decide +kernel
theorem dX3_deadBits_10 : decode cX3_deadBits 10 = .ok (.aload_n 0, 1) := by decide +kernel
theorem dX3_deadBits_11 : decode cX3_deadBits 11 = .ok (.getfield 11, 3) := by decide +kernel
theorem dX3_deadBits_14 : decode cX3_deadBits 14 = .ok (.iload_n 2, 1) := by decide +kernel
theorem dX3_deadBits_15 : decode cX3_deadBits 15 = .ok (.aaload, 1) := by decide +kernel
theorem dX3_deadBits_16 : decode cX3_deadBits 16 = .ok (.invokevirtual 64, 3) := by decide +kernel
theorem dX3_deadBits_19 : decode cX3_deadBits 19 = .ok (.ifCond .eq 9, 3) := by decide +kernel
theorem dX3_deadBits_28 : decode cX3_deadBits 28 = .ok (.iconst 0, 1) := by decide +kernel
theorem dX3_deadBits_29 : decode cX3_deadBits 29 = .ok (.ior, 1) := by decide +kernel
theorem dX3_deadBits_30 : decode cX3_deadBits 30 = .ok (.istore_n 1, 1) := by decide +kernel
theorem dX3_deadBits_31 : decode cX3_deadBits 31 = .ok (.iinc 2 1, 3) := by decide +kernel
theorem dX3_deadBits_34 : decode cX3_deadBits 34 = .ok (.goto (-30), 3) := by decide +kernel
theorem dX3_deadBits_37 : decode cX3_deadBits 37 = .ok (.iload_n 1, 1) := by decide +kernel
theorem dX3_deadBits_38 : decode cX3_deadBits 38 = .ok (.ireturn, 1) := by decide +kernel
set_option maxHeartbeats 4000000 in
set_option maxRecDepth 100000 in
theorem f_deadBits (l : Launch) (D : va_G) (cy : Nat → ClassId) (ad : Nat → Nat) (V J : Nat → Nat → Int) (Rr : Nat → Nat → Nat) (hV : VR V) (hJ : VJ J) (b : Nat) (hb : isLa b) (hnp : NPl V b) : xMi l D (xTY cy) yX3_deadBits cX3_deadBits 3 (some .int) 1 20 0 0 [.ref (ad b)] (XW cy ad V J Rr) (fun _ : Unit => XW cy ad V J Rr) (fun r _ => r = 0) := by
  refine xMi.mk (lv0 := [(0, .ref (ad b))]) (by decide) rfl (Nat.le_of_ble_eq_true rfl) (fun p e s m below meth c A C hr hnm hAe => ?_)
  have C : xC2 p s m _ meth c D A s.heap 3 cX3_deadBits RX3 (xTY cy) := C
  refine x_iconst C.1 (n := 0) dX3_deadBits_0 ?_
  refine x_istore_n C.1 (lv' := [(1, vI 0), (0, .ref (ad b))]) dX3_deadBits_1 (by decide) rfl ?_
  refine x_iconst C.1 (n := 0) dX3_deadBits_2 ?_
  refine x_istore_n C.1 (lv' := [(2, vI 0), (1, vI 0), (0, .ref (ad b))]) dX3_deadBits_3 (by decide) rfl ?_
  refine x_iload_n C.1 dX3_deadBits_4 0 rfl ?_
  refine x_iconst C.1 (n := 4) dX3_deadBits_5 ?_
  refine x_icmp_ge_f C.1 (tgt := 37) dX3_deadBits_6 (by decide) (by decide) (by decide) (by decide) ?_
  refine x_iload_n C.1 dX3_deadBits_9 1 rfl ?_
  refine x_aload_n C.1 dX3_deadBits_10 2 rfl ?_
  refine x_getA C (N := 129) (i := b) (by omega) (xd_L hb) vc_X3 wx_X3 0 (by decide) wf_X3_11 (a := b + 1) rfl dX3_deadBits_11 ?_
  refine x_iload_n C.1 dX3_deadBits_14 0 rfl ?_
  refine x_aldS C (N := 129) (i := b + 1) (q := 0) (t := 4) rfl (by omega) (xd_La hb) (by decide) (by decide) dX3_deadBits_15 (a := b + 3 + 2 * 0) rfl ?_
  refine x_callVi C (As := []) (rest := [vI 0]) (b + 3 + 2 * 0) (xw_at (N := 129) (i := b + 3 + 2 * 0) (Nat.lt_of_succ_lt (isPl_L hb (l := 0) (by omega)).1) (isPl_L hb (l := 0) (by omega)).2.1) vc_X5 (f_isDead l D cy ad V J Rr hV hJ (b + 3 + 2 * 0) (isPl_L hb (l := 0) (by omega)) (hnp _ (by decide))) (l1 := []) (l2 := []) (List.append_nil _).symm (w2 := fun _ => XW cy ad V J Rr) (fun _ => List.append_nil _) rfl wm_yX5_isDead wn_X5 wl_X3_64 wi_yX5_isDead we_yX5_isDead hd_yX5_isDead rfl ⟨Nat.le_of_ble_eq_true rfl, Nat.le_of_ble_eq_true rfl⟩ (Nat.le_of_ble_eq_true rfl) ⟨Nat.le_of_ble_eq_true rfl, Nat.le_of_ble_eq_true rfl⟩ dX3_deadBits_16 (fun r1 u1 hr1 h1 => ?_)
  obtain rfl := h1
  refine x_if_eq_t C.1 (tgt := 28) dX3_deadBits_19 (by decide) (by decide) (by decide) ?_
  refine x_iconst C.1 (n := 0) dX3_deadBits_28 ?_
  refine x_ior C.1 (v := 0) (by decide) dX3_deadBits_29 ?_
  refine x_istore_n C.1 (lv' := [(1, vI 0), (2, vI 0), (0, .ref (ad b))]) dX3_deadBits_30 (by decide) rfl ?_
  refine x_iinc C.1 (v := 1) (lv' := [(2, vI 1), (1, vI 0), (0, .ref (ad b))]) (by decide) dX3_deadBits_31 1 rfl (by decide) rfl ?_
  refine x_goto C.1 (tgt := 4) dX3_deadBits_34 (by decide) ?_
  refine x_iload_n C.1 dX3_deadBits_4 0 rfl ?_
  refine x_iconst C.1 (n := 4) dX3_deadBits_5 ?_
  refine x_icmp_ge_f C.1 (tgt := 37) dX3_deadBits_6 (by decide) (by decide) (by decide) (by decide) ?_
  refine x_iload_n C.1 dX3_deadBits_9 1 rfl ?_
  refine x_aload_n C.1 dX3_deadBits_10 2 rfl ?_
  refine x_getA C (N := 129) (i := b) (by omega) (xd_L hb) vc_X3 wx_X3 0 (by decide) wf_X3_11 (a := b + 1) rfl dX3_deadBits_11 ?_
  refine x_iload_n C.1 dX3_deadBits_14 0 rfl ?_
  refine x_aldS C (N := 129) (i := b + 1) (q := 1) (t := 4) rfl (by omega) (xd_La hb) (by decide) (by decide) dX3_deadBits_15 (a := b + 3 + 2 * 1) rfl ?_
  refine x_callVi C (As := []) (rest := [vI 0]) (b + 3 + 2 * 1) (xw_at (N := 129) (i := b + 3 + 2 * 1) (Nat.lt_of_succ_lt (isPl_L hb (l := 1) (by omega)).1) (isPl_L hb (l := 1) (by omega)).2.1) vc_X5 (f_isDead l D cy ad V J Rr hV hJ (b + 3 + 2 * 1) (isPl_L hb (l := 1) (by omega)) (hnp _ (by decide))) (l1 := []) (l2 := []) (List.append_nil _).symm (w2 := fun _ => XW cy ad V J Rr) (fun _ => List.append_nil _) rfl wm_yX5_isDead wn_X5 wl_X3_64 wi_yX5_isDead we_yX5_isDead hd_yX5_isDead rfl ⟨Nat.le_of_ble_eq_true rfl, Nat.le_of_ble_eq_true rfl⟩ (Nat.le_of_ble_eq_true rfl) ⟨Nat.le_of_ble_eq_true rfl, Nat.le_of_ble_eq_true rfl⟩ dX3_deadBits_16 (fun r2 u2 hr2 h2 => ?_)
  obtain rfl := h2
  refine x_if_eq_t C.1 (tgt := 28) dX3_deadBits_19 (by decide) (by decide) (by decide) ?_
  refine x_iconst C.1 (n := 0) dX3_deadBits_28 ?_
  refine x_ior C.1 (v := 0) (by decide) dX3_deadBits_29 ?_
  refine x_istore_n C.1 (lv' := [(1, vI 0), (2, vI 1), (0, .ref (ad b))]) dX3_deadBits_30 (by decide) rfl ?_
  refine x_iinc C.1 (v := 2) (lv' := [(2, vI 2), (1, vI 0), (0, .ref (ad b))]) (by decide) dX3_deadBits_31 1 rfl (by decide) rfl ?_
  refine x_goto C.1 (tgt := 4) dX3_deadBits_34 (by decide) ?_
  refine x_iload_n C.1 dX3_deadBits_4 0 rfl ?_
  refine x_iconst C.1 (n := 4) dX3_deadBits_5 ?_
  refine x_icmp_ge_f C.1 (tgt := 37) dX3_deadBits_6 (by decide) (by decide) (by decide) (by decide) ?_
  refine x_iload_n C.1 dX3_deadBits_9 1 rfl ?_
  refine x_aload_n C.1 dX3_deadBits_10 2 rfl ?_
  refine x_getA C (N := 129) (i := b) (by omega) (xd_L hb) vc_X3 wx_X3 0 (by decide) wf_X3_11 (a := b + 1) rfl dX3_deadBits_11 ?_
  refine x_iload_n C.1 dX3_deadBits_14 0 rfl ?_
  refine x_aldS C (N := 129) (i := b + 1) (q := 2) (t := 4) rfl (by omega) (xd_La hb) (by decide) (by decide) dX3_deadBits_15 (a := b + 3 + 2 * 2) rfl ?_
  refine x_callVi C (As := []) (rest := [vI 0]) (b + 3 + 2 * 2) (xw_at (N := 129) (i := b + 3 + 2 * 2) (Nat.lt_of_succ_lt (isPl_L hb (l := 2) (by omega)).1) (isPl_L hb (l := 2) (by omega)).2.1) vc_X5 (f_isDead l D cy ad V J Rr hV hJ (b + 3 + 2 * 2) (isPl_L hb (l := 2) (by omega)) (hnp _ (by decide))) (l1 := []) (l2 := []) (List.append_nil _).symm (w2 := fun _ => XW cy ad V J Rr) (fun _ => List.append_nil _) rfl wm_yX5_isDead wn_X5 wl_X3_64 wi_yX5_isDead we_yX5_isDead hd_yX5_isDead rfl ⟨Nat.le_of_ble_eq_true rfl, Nat.le_of_ble_eq_true rfl⟩ (Nat.le_of_ble_eq_true rfl) ⟨Nat.le_of_ble_eq_true rfl, Nat.le_of_ble_eq_true rfl⟩ dX3_deadBits_16 (fun r3 u3 hr3 h3 => ?_)
  obtain rfl := h3
  refine x_if_eq_t C.1 (tgt := 28) dX3_deadBits_19 (by decide) (by decide) (by decide) ?_
  refine x_iconst C.1 (n := 0) dX3_deadBits_28 ?_
  refine x_ior C.1 (v := 0) (by decide) dX3_deadBits_29 ?_
  refine x_istore_n C.1 (lv' := [(1, vI 0), (2, vI 2), (0, .ref (ad b))]) dX3_deadBits_30 (by decide) rfl ?_
  refine x_iinc C.1 (v := 3) (lv' := [(2, vI 3), (1, vI 0), (0, .ref (ad b))]) (by decide) dX3_deadBits_31 1 rfl (by decide) rfl ?_
  refine x_goto C.1 (tgt := 4) dX3_deadBits_34 (by decide) ?_
  refine x_iload_n C.1 dX3_deadBits_4 0 rfl ?_
  refine x_iconst C.1 (n := 4) dX3_deadBits_5 ?_
  refine x_icmp_ge_f C.1 (tgt := 37) dX3_deadBits_6 (by decide) (by decide) (by decide) (by decide) ?_
  refine x_iload_n C.1 dX3_deadBits_9 1 rfl ?_
  refine x_aload_n C.1 dX3_deadBits_10 2 rfl ?_
  refine x_getA C (N := 129) (i := b) (by omega) (xd_L hb) vc_X3 wx_X3 0 (by decide) wf_X3_11 (a := b + 1) rfl dX3_deadBits_11 ?_
  refine x_iload_n C.1 dX3_deadBits_14 0 rfl ?_
  refine x_aldS C (N := 129) (i := b + 1) (q := 3) (t := 4) rfl (by omega) (xd_La hb) (by decide) (by decide) dX3_deadBits_15 (a := b + 3 + 2 * 3) rfl ?_
  refine x_callVi C (As := []) (rest := [vI 0]) (b + 3 + 2 * 3) (xw_at (N := 129) (i := b + 3 + 2 * 3) (Nat.lt_of_succ_lt (isPl_L hb (l := 3) (by omega)).1) (isPl_L hb (l := 3) (by omega)).2.1) vc_X5 (f_isDead l D cy ad V J Rr hV hJ (b + 3 + 2 * 3) (isPl_L hb (l := 3) (by omega)) (hnp _ (by decide))) (l1 := []) (l2 := []) (List.append_nil _).symm (w2 := fun _ => XW cy ad V J Rr) (fun _ => List.append_nil _) rfl wm_yX5_isDead wn_X5 wl_X3_64 wi_yX5_isDead we_yX5_isDead hd_yX5_isDead rfl ⟨Nat.le_of_ble_eq_true rfl, Nat.le_of_ble_eq_true rfl⟩ (Nat.le_of_ble_eq_true rfl) ⟨Nat.le_of_ble_eq_true rfl, Nat.le_of_ble_eq_true rfl⟩ dX3_deadBits_16 (fun r4 u4 hr4 h4 => ?_)
  obtain rfl := h4
  refine x_if_eq_t C.1 (tgt := 28) dX3_deadBits_19 (by decide) (by decide) (by decide) ?_
  refine x_iconst C.1 (n := 0) dX3_deadBits_28 ?_
  refine x_ior C.1 (v := 0) (by decide) dX3_deadBits_29 ?_
  refine x_istore_n C.1 (lv' := [(1, vI 0), (2, vI 3), (0, .ref (ad b))]) dX3_deadBits_30 (by decide) rfl ?_
  refine x_iinc C.1 (v := 4) (lv' := [(2, vI 4), (1, vI 0), (0, .ref (ad b))]) (by decide) dX3_deadBits_31 1 rfl (by decide) rfl ?_
  refine x_goto C.1 (tgt := 4) dX3_deadBits_34 (by decide) ?_
  refine x_iload_n C.1 dX3_deadBits_4 0 rfl ?_
  refine x_iconst C.1 (n := 4) dX3_deadBits_5 ?_
  refine x_icmp_ge_t C.1 (tgt := 37) dX3_deadBits_6 (by decide) (by decide) (by decide) (by decide) ?_
  refine x_iload_n C.1 dX3_deadBits_37 1 rfl ?_
  exact x_iret (S := Unit) (post := fun r _ => r = 0) (w1 := fun _ : Unit => XW cy ad V J Rr) (a := 0) C hr rfl dX3_deadBits_38 (by decide) () rfl (by omega)
theorem dX3_toldPeople_0 : decode cX3_toldPeople 0 = .ok (.iconst 0, 1) := by decide +kernel
theorem dX3_toldPeople_1 : decode cX3_toldPeople 1 = .ok (.istore_n 1, 1) := by decide +kernel
theorem dX3_toldPeople_2 : decode cX3_toldPeople 2 = .ok (.iconst 0, 1) := by decide +kernel
theorem dX3_toldPeople_3 : decode cX3_toldPeople 3 = .ok (.istore_n 2, 1) := by decide +kernel
theorem dX3_toldPeople_4 : decode cX3_toldPeople 4 = .ok (.iload_n 2, 1) := by decide +kernel
theorem dX3_toldPeople_5 : decode cX3_toldPeople 5 = .ok (.bipush 8, 2) := by decide +kernel
theorem dX3_toldPeople_7 : decode cX3_toldPeople 7 = .ok (.if_icmp .ge 31, 3) := by decide +kernel
theorem dX3_toldPeople_10 : decode cX3_toldPeople 10 = .ok (.iload_n 1, 1) := by decide +kernel
theorem dX3_toldPeople_11 : decode cX3_toldPeople 11 = .ok (.aload_n 0, 1) := by decide +kernel
theorem dX3_toldPeople_12 : decode cX3_toldPeople 12 = .ok (.getfield 19, 3) := by decide +kernel
theorem dX3_toldPeople_15 : decode cX3_toldPeople 15 = .ok (.iload_n 2, 1) := by decide +kernel
theorem dX3_toldPeople_16 : decode cX3_toldPeople 16 = .ok (.aaload, 1) := by decide +kernel
theorem dX3_toldPeople_17 : decode cX3_toldPeople 17 = .ok (.getfield 42, 3) := by decide +kernel
theorem dX3_toldPeople_20 : decode cX3_toldPeople 20 = .ok (.ifCond .eq 9, 3) := by decide +kernel
theorem dX3_toldPeople_29 : decode cX3_toldPeople 29 = .ok (.iconst 0, 1) := by decide +kernel
theorem dX3_toldPeople_30 : decode cX3_toldPeople 30 = .ok (.ior, 1) := by decide +kernel
theorem dX3_toldPeople_31 : decode cX3_toldPeople 31 = .ok (.istore_n 1, 1) := by decide +kernel
theorem dX3_toldPeople_32 : decode cX3_toldPeople 32 = .ok (.iinc 2 1, 3) := by decide +kernel
theorem dX3_toldPeople_35 : decode cX3_toldPeople 35 = .ok (.goto (-31), 3) := by decide +kernel
theorem dX3_toldPeople_38 : decode cX3_toldPeople 38 = .ok (.iload_n 1, 1) := by decide +kernel
theorem dX3_toldPeople_39 : decode cX3_toldPeople 39 = .ok (.ireturn, 1) := by decide +kernel
set_option maxHeartbeats 4000000 in
set_option maxRecDepth 100000 in
theorem f_toldPeople (l : Launch) (D : va_G) (cy : Nat → ClassId) (ad : Nat → Nat) (V J : Nat → Nat → Int) (Rr : Nat → Nat → Nat) (hV : VR V) (hJ : VJ J) (b : Nat) (hb : isLa b) (hne : NPe V b) : xMi l D (xTY cy) yX3_toldPeople cX3_toldPeople 3 (some .int) 0 0 0 0 [.ref (ad b)] (XW cy ad V J Rr) (fun _ : Unit => XW cy ad V J Rr) (fun r _ => r = 0) := by
  refine xMi.mk (lv0 := [(0, .ref (ad b))]) (by decide) rfl (Nat.le_of_ble_eq_true rfl) (fun p e s m below meth c A C hr hnm hAe => ?_)
  have C : xC2 p s m _ meth c D A s.heap 3 cX3_toldPeople RX3 (xTY cy) := C
  refine x_iconst C.1 (n := 0) dX3_toldPeople_0 ?_
  refine x_istore_n C.1 (lv' := [(1, vI 0), (0, .ref (ad b))]) dX3_toldPeople_1 (by decide) rfl ?_
  refine x_iconst C.1 (n := 0) dX3_toldPeople_2 ?_
  refine x_istore_n C.1 (lv' := [(2, vI 0), (1, vI 0), (0, .ref (ad b))]) dX3_toldPeople_3 (by decide) rfl ?_
  refine x_iload_n C.1 dX3_toldPeople_4 0 rfl ?_
  refine x_bipush C.1 (n := 8) dX3_toldPeople_5 ?_
  refine x_icmp_ge_f C.1 (tgt := 38) dX3_toldPeople_7 (by decide) (by decide) (by decide) (by decide) ?_
  refine x_iload_n C.1 dX3_toldPeople_10 1 rfl ?_
  refine x_aload_n C.1 dX3_toldPeople_11 2 rfl ?_
  refine x_getA C (N := 129) (i := b) (by omega) (xd_L hb) vc_X3 wx_X3 1 (by decide) wf_X3_19 (a := b + 2) rfl dX3_toldPeople_12 ?_
  refine x_iload_n C.1 dX3_toldPeople_15 0 rfl ?_
  refine x_aldS C (N := 129) (i := b + 2) (q := 0) (t := 5) rfl (by omega) (xd_Lb hb) (by decide) (by decide) dX3_toldPeople_16 (a := b + 11 + 1 * 0) rfl ?_
  refine x_getI C (N := 129) (i := b + 11 + 1 * 0) (isPe_L hb (q := 0) (by omega)).1 (isPe_L hb (q := 0) (by omega)).2 vc_X4 wx_X4 0 (by decide) wf_X3_42 rfl dX3_toldPeople_17 (a := 0) (hne 0 (by decide)) ?_
  refine x_if_eq_t C.1 (tgt := 29) dX3_toldPeople_20 (by decide) (by decide) (by decide) ?_
  refine x_iconst C.1 (n := 0) dX3_toldPeople_29 ?_
  refine x_ior C.1 (v := 0) (by decide) dX3_toldPeople_30 ?_
  refine x_istore_n C.1 (lv' := [(1, vI 0), (2, vI 0), (0, .ref (ad b))]) dX3_toldPeople_31 (by decide) rfl ?_
  refine x_iinc C.1 (v := 1) (lv' := [(2, vI 1), (1, vI 0), (0, .ref (ad b))]) (by decide) dX3_toldPeople_32 1 rfl (by decide) rfl ?_
  refine x_goto C.1 (tgt := 4) dX3_toldPeople_35 (by decide) ?_
  refine x_iload_n C.1 dX3_toldPeople_4 0 rfl ?_
  refine x_bipush C.1 (n := 8) dX3_toldPeople_5 ?_
  refine x_icmp_ge_f C.1 (tgt := 38) dX3_toldPeople_7 (by decide) (by decide) (by decide) (by decide) ?_
  refine x_iload_n C.1 dX3_toldPeople_10 1 rfl ?_
  refine x_aload_n C.1 dX3_toldPeople_11 2 rfl ?_
  refine x_getA C (N := 129) (i := b) (by omega) (xd_L hb) vc_X3 wx_X3 1 (by decide) wf_X3_19 (a := b + 2) rfl dX3_toldPeople_12 ?_
  refine x_iload_n C.1 dX3_toldPeople_15 0 rfl ?_
  refine x_aldS C (N := 129) (i := b + 2) (q := 1) (t := 5) rfl (by omega) (xd_Lb hb) (by decide) (by decide) dX3_toldPeople_16 (a := b + 11 + 1 * 1) rfl ?_
  refine x_getI C (N := 129) (i := b + 11 + 1 * 1) (isPe_L hb (q := 1) (by omega)).1 (isPe_L hb (q := 1) (by omega)).2 vc_X4 wx_X4 0 (by decide) wf_X3_42 rfl dX3_toldPeople_17 (a := 0) (hne 1 (by decide)) ?_
  refine x_if_eq_t C.1 (tgt := 29) dX3_toldPeople_20 (by decide) (by decide) (by decide) ?_
  refine x_iconst C.1 (n := 0) dX3_toldPeople_29 ?_
  refine x_ior C.1 (v := 0) (by decide) dX3_toldPeople_30 ?_
  refine x_istore_n C.1 (lv' := [(1, vI 0), (2, vI 1), (0, .ref (ad b))]) dX3_toldPeople_31 (by decide) rfl ?_
  refine x_iinc C.1 (v := 2) (lv' := [(2, vI 2), (1, vI 0), (0, .ref (ad b))]) (by decide) dX3_toldPeople_32 1 rfl (by decide) rfl ?_
  refine x_goto C.1 (tgt := 4) dX3_toldPeople_35 (by decide) ?_
  refine x_iload_n C.1 dX3_toldPeople_4 0 rfl ?_
  refine x_bipush C.1 (n := 8) dX3_toldPeople_5 ?_
  refine x_icmp_ge_f C.1 (tgt := 38) dX3_toldPeople_7 (by decide) (by decide) (by decide) (by decide) ?_
  refine x_iload_n C.1 dX3_toldPeople_10 1 rfl ?_
  refine x_aload_n C.1 dX3_toldPeople_11 2 rfl ?_
  refine x_getA C (N := 129) (i := b) (by omega) (xd_L hb) vc_X3 wx_X3 1 (by decide) wf_X3_19 (a := b + 2) rfl dX3_toldPeople_12 ?_
  refine x_iload_n C.1 dX3_toldPeople_15 0 rfl ?_
  refine x_aldS C (N := 129) (i := b + 2) (q := 2) (t := 5) rfl (by omega) (xd_Lb hb) (by decide) (by decide) dX3_toldPeople_16 (a := b + 11 + 1 * 2) rfl ?_
  refine x_getI C (N := 129) (i := b + 11 + 1 * 2) (isPe_L hb (q := 2) (by omega)).1 (isPe_L hb (q := 2) (by omega)).2 vc_X4 wx_X4 0 (by decide) wf_X3_42 rfl dX3_toldPeople_17 (a := 0) (hne 2 (by decide)) ?_
  refine x_if_eq_t C.1 (tgt := 29) dX3_toldPeople_20 (by decide) (by decide) (by decide) ?_
  refine x_iconst C.1 (n := 0) dX3_toldPeople_29 ?_
  refine x_ior C.1 (v := 0) (by decide) dX3_toldPeople_30 ?_
  refine x_istore_n C.1 (lv' := [(1, vI 0), (2, vI 2), (0, .ref (ad b))]) dX3_toldPeople_31 (by decide) rfl ?_
  refine x_iinc C.1 (v := 3) (lv' := [(2, vI 3), (1, vI 0), (0, .ref (ad b))]) (by decide) dX3_toldPeople_32 1 rfl (by decide) rfl ?_
  refine x_goto C.1 (tgt := 4) dX3_toldPeople_35 (by decide) ?_
  refine x_iload_n C.1 dX3_toldPeople_4 0 rfl ?_
  refine x_bipush C.1 (n := 8) dX3_toldPeople_5 ?_
  refine x_icmp_ge_f C.1 (tgt := 38) dX3_toldPeople_7 (by decide) (by decide) (by decide) (by decide) ?_
  refine x_iload_n C.1 dX3_toldPeople_10 1 rfl ?_
  refine x_aload_n C.1 dX3_toldPeople_11 2 rfl ?_
  refine x_getA C (N := 129) (i := b) (by omega) (xd_L hb) vc_X3 wx_X3 1 (by decide) wf_X3_19 (a := b + 2) rfl dX3_toldPeople_12 ?_
  refine x_iload_n C.1 dX3_toldPeople_15 0 rfl ?_
  refine x_aldS C (N := 129) (i := b + 2) (q := 3) (t := 5) rfl (by omega) (xd_Lb hb) (by decide) (by decide) dX3_toldPeople_16 (a := b + 11 + 1 * 3) rfl ?_
  refine x_getI C (N := 129) (i := b + 11 + 1 * 3) (isPe_L hb (q := 3) (by omega)).1 (isPe_L hb (q := 3) (by omega)).2 vc_X4 wx_X4 0 (by decide) wf_X3_42 rfl dX3_toldPeople_17 (a := 0) (hne 3 (by decide)) ?_
  refine x_if_eq_t C.1 (tgt := 29) dX3_toldPeople_20 (by decide) (by decide) (by decide) ?_
  refine x_iconst C.1 (n := 0) dX3_toldPeople_29 ?_
  refine x_ior C.1 (v := 0) (by decide) dX3_toldPeople_30 ?_
  refine x_istore_n C.1 (lv' := [(1, vI 0), (2, vI 3), (0, .ref (ad b))]) dX3_toldPeople_31 (by decide) rfl ?_
  refine x_iinc C.1 (v := 4) (lv' := [(2, vI 4), (1, vI 0), (0, .ref (ad b))]) (by decide) dX3_toldPeople_32 1 rfl (by decide) rfl ?_
  refine x_goto C.1 (tgt := 4) dX3_toldPeople_35 (by decide) ?_
  refine x_iload_n C.1 dX3_toldPeople_4 0 rfl ?_
  refine x_bipush C.1 (n := 8) dX3_toldPeople_5 ?_
  refine x_icmp_ge_f C.1 (tgt := 38) dX3_toldPeople_7 (by decide) (by decide) (by decide) (by decide) ?_
  refine x_iload_n C.1 dX3_toldPeople_10 1 rfl ?_
  refine x_aload_n C.1 dX3_toldPeople_11 2 rfl ?_
  refine x_getA C (N := 129) (i := b) (by omega) (xd_L hb) vc_X3 wx_X3 1 (by decide) wf_X3_19 (a := b + 2) rfl dX3_toldPeople_12 ?_
  refine x_iload_n C.1 dX3_toldPeople_15 0 rfl ?_
  refine x_aldS C (N := 129) (i := b + 2) (q := 4) (t := 5) rfl (by omega) (xd_Lb hb) (by decide) (by decide) dX3_toldPeople_16 (a := b + 11 + 1 * 4) rfl ?_
  refine x_getI C (N := 129) (i := b + 11 + 1 * 4) (isPe_L hb (q := 4) (by omega)).1 (isPe_L hb (q := 4) (by omega)).2 vc_X4 wx_X4 0 (by decide) wf_X3_42 rfl dX3_toldPeople_17 (a := 0) (hne 4 (by decide)) ?_
  refine x_if_eq_t C.1 (tgt := 29) dX3_toldPeople_20 (by decide) (by decide) (by decide) ?_
  refine x_iconst C.1 (n := 0) dX3_toldPeople_29 ?_
  refine x_ior C.1 (v := 0) (by decide) dX3_toldPeople_30 ?_
  refine x_istore_n C.1 (lv' := [(1, vI 0), (2, vI 4), (0, .ref (ad b))]) dX3_toldPeople_31 (by decide) rfl ?_
  refine x_iinc C.1 (v := 5) (lv' := [(2, vI 5), (1, vI 0), (0, .ref (ad b))]) (by decide) dX3_toldPeople_32 1 rfl (by decide) rfl ?_
  refine x_goto C.1 (tgt := 4) dX3_toldPeople_35 (by decide) ?_
  refine x_iload_n C.1 dX3_toldPeople_4 0 rfl ?_
  refine x_bipush C.1 (n := 8) dX3_toldPeople_5 ?_
  refine x_icmp_ge_f C.1 (tgt := 38) dX3_toldPeople_7 (by decide) (by decide) (by decide) (by decide) ?_
  refine x_iload_n C.1 dX3_toldPeople_10 1 rfl ?_
  refine x_aload_n C.1 dX3_toldPeople_11 2 rfl ?_
  refine x_getA C (N := 129) (i := b) (by omega) (xd_L hb) vc_X3 wx_X3 1 (by decide) wf_X3_19 (a := b + 2) rfl dX3_toldPeople_12 ?_
  refine x_iload_n C.1 dX3_toldPeople_15 0 rfl ?_
  refine x_aldS C (N := 129) (i := b + 2) (q := 5) (t := 5) rfl (by omega) (xd_Lb hb) (by decide) (by decide) dX3_toldPeople_16 (a := b + 11 + 1 * 5) rfl ?_
  refine x_getI C (N := 129) (i := b + 11 + 1 * 5) (isPe_L hb (q := 5) (by omega)).1 (isPe_L hb (q := 5) (by omega)).2 vc_X4 wx_X4 0 (by decide) wf_X3_42 rfl dX3_toldPeople_17 (a := 0) (hne 5 (by decide)) ?_
  refine x_if_eq_t C.1 (tgt := 29) dX3_toldPeople_20 (by decide) (by decide) (by decide) ?_
  refine x_iconst C.1 (n := 0) dX3_toldPeople_29 ?_
  refine x_ior C.1 (v := 0) (by decide) dX3_toldPeople_30 ?_
  refine x_istore_n C.1 (lv' := [(1, vI 0), (2, vI 5), (0, .ref (ad b))]) dX3_toldPeople_31 (by decide) rfl ?_
  refine x_iinc C.1 (v := 6) (lv' := [(2, vI 6), (1, vI 0), (0, .ref (ad b))]) (by decide) dX3_toldPeople_32 1 rfl (by decide) rfl ?_
  refine x_goto C.1 (tgt := 4) dX3_toldPeople_35 (by decide) ?_
  refine x_iload_n C.1 dX3_toldPeople_4 0 rfl ?_
  refine x_bipush C.1 (n := 8) dX3_toldPeople_5 ?_
  refine x_icmp_ge_f C.1 (tgt := 38) dX3_toldPeople_7 (by decide) (by decide) (by decide) (by decide) ?_
  refine x_iload_n C.1 dX3_toldPeople_10 1 rfl ?_
  refine x_aload_n C.1 dX3_toldPeople_11 2 rfl ?_
  refine x_getA C (N := 129) (i := b) (by omega) (xd_L hb) vc_X3 wx_X3 1 (by decide) wf_X3_19 (a := b + 2) rfl dX3_toldPeople_12 ?_
  refine x_iload_n C.1 dX3_toldPeople_15 0 rfl ?_
  refine x_aldS C (N := 129) (i := b + 2) (q := 6) (t := 5) rfl (by omega) (xd_Lb hb) (by decide) (by decide) dX3_toldPeople_16 (a := b + 11 + 1 * 6) rfl ?_
  refine x_getI C (N := 129) (i := b + 11 + 1 * 6) (isPe_L hb (q := 6) (by omega)).1 (isPe_L hb (q := 6) (by omega)).2 vc_X4 wx_X4 0 (by decide) wf_X3_42 rfl dX3_toldPeople_17 (a := 0) (hne 6 (by decide)) ?_
  refine x_if_eq_t C.1 (tgt := 29) dX3_toldPeople_20 (by decide) (by decide) (by decide) ?_
  refine x_iconst C.1 (n := 0) dX3_toldPeople_29 ?_
  refine x_ior C.1 (v := 0) (by decide) dX3_toldPeople_30 ?_
  refine x_istore_n C.1 (lv' := [(1, vI 0), (2, vI 6), (0, .ref (ad b))]) dX3_toldPeople_31 (by decide) rfl ?_
  refine x_iinc C.1 (v := 7) (lv' := [(2, vI 7), (1, vI 0), (0, .ref (ad b))]) (by decide) dX3_toldPeople_32 1 rfl (by decide) rfl ?_
  refine x_goto C.1 (tgt := 4) dX3_toldPeople_35 (by decide) ?_
  refine x_iload_n C.1 dX3_toldPeople_4 0 rfl ?_
  refine x_bipush C.1 (n := 8) dX3_toldPeople_5 ?_
  refine x_icmp_ge_f C.1 (tgt := 38) dX3_toldPeople_7 (by decide) (by decide) (by decide) (by decide) ?_
  refine x_iload_n C.1 dX3_toldPeople_10 1 rfl ?_
  refine x_aload_n C.1 dX3_toldPeople_11 2 rfl ?_
  refine x_getA C (N := 129) (i := b) (by omega) (xd_L hb) vc_X3 wx_X3 1 (by decide) wf_X3_19 (a := b + 2) rfl dX3_toldPeople_12 ?_
  refine x_iload_n C.1 dX3_toldPeople_15 0 rfl ?_
  refine x_aldS C (N := 129) (i := b + 2) (q := 7) (t := 5) rfl (by omega) (xd_Lb hb) (by decide) (by decide) dX3_toldPeople_16 (a := b + 11 + 1 * 7) rfl ?_
  refine x_getI C (N := 129) (i := b + 11 + 1 * 7) (isPe_L hb (q := 7) (by omega)).1 (isPe_L hb (q := 7) (by omega)).2 vc_X4 wx_X4 0 (by decide) wf_X3_42 rfl dX3_toldPeople_17 (a := 0) (hne 7 (by decide)) ?_
  refine x_if_eq_t C.1 (tgt := 29) dX3_toldPeople_20 (by decide) (by decide) (by decide) ?_
  refine x_iconst C.1 (n := 0) dX3_toldPeople_29 ?_
  refine x_ior C.1 (v := 0) (by decide) dX3_toldPeople_30 ?_
  refine x_istore_n C.1 (lv' := [(1, vI 0), (2, vI 7), (0, .ref (ad b))]) dX3_toldPeople_31 (by decide) rfl ?_
  refine x_iinc C.1 (v := 8) (lv' := [(2, vI 8), (1, vI 0), (0, .ref (ad b))]) (by decide) dX3_toldPeople_32 1 rfl (by decide) rfl ?_
  refine x_goto C.1 (tgt := 4) dX3_toldPeople_35 (by decide) ?_
  refine x_iload_n C.1 dX3_toldPeople_4 0 rfl ?_
  refine x_bipush C.1 (n := 8) dX3_toldPeople_5 ?_
  refine x_icmp_ge_t C.1 (tgt := 38) dX3_toldPeople_7 (by decide) (by decide) (by decide) (by decide) ?_
  refine x_iload_n C.1 dX3_toldPeople_38 1 rfl ?_
  exact x_iret (S := Unit) (post := fun r _ => r = 0) (w1 := fun _ : Unit => XW cy ad V J Rr) (a := 0) C hr rfl dX3_toldPeople_39 (by decide) () rfl (by omega)
theorem hd_yX3_deadBits : yX3_deadBits.cls ≠ "java/lang/invoke/MethodHandle" ∧ yX3_deadBits.cls ≠ "java/lang/invoke/VarHandle" ∧ (parseMethodDescriptor yX3_deadBits.desc).map (fun d => d.parameters.length) = some 0 := by decide +kernel
theorem hd_yX3_toldPlants : yX3_toldPlants.cls ≠ "java/lang/invoke/MethodHandle" ∧ yX3_toldPlants.cls ≠ "java/lang/invoke/VarHandle" ∧ (parseMethodDescriptor yX3_toldPlants.desc).map (fun d => d.parameters.length) = some 0 := by decide +kernel
theorem dX11_spread_0 : decode cX11_spread 0 = .ok (.iload_n 1, 1) := by decide +kernel
theorem dX11_spread_1 : decode cX11_spread 1 = .ok (.iconst 0, 1) := by decide +kernel
theorem dX11_spread_2 : decode cX11_spread 2 = .ok (.bipush 24, 2) := by decide +kernel
theorem dX11_spread_4 : decode cX11_spread 4 = .ok (.invokestatic 74, 3) := by decide +kernel
theorem dX11_spread_7 : decode cX11_spread 7 = .ok (.ifCond .eq 17, 3) := by decide +kernel
theorem dX11_spread_10 : decode cX11_spread 10 = .ok (.iload_n 2, 1) := by decide +kernel
theorem dX11_spread_11 : decode cX11_spread 11 = .ok (.iconst 4, 1) := by decide +kernel
theorem dX11_spread_12 : decode cX11_spread 12 = .ok (.invokestatic 70, 3) := by decide +kernel
theorem dX11_spread_15 : decode cX11_spread 15 = .ok (.ifCond .ne 11, 3) := by decide +kernel
theorem dX11_spread_18 : decode cX11_spread 18 = .ok (.iload_n 2, 1) := by decide +kernel
theorem dX11_spread_19 : decode cX11_spread 19 = .ok (.bipush 10, 2) := by decide +kernel
theorem dX11_spread_21 : decode cX11_spread 21 = .ok (.if_icmp .eq 5, 3) := by decide +kernel
theorem dX11_spread_24 : decode cX11_spread 24 = .ok (.iconst (-1), 1) := by decide +kernel
theorem dX11_spread_25 : decode cX11_spread 25 = .ok (.ireturn, 1) := by decide +kernel
theorem dX11_spread_26 : decode cX11_spread 26 = .ok (.aload_n 0, 1) := by decide +kernel
theorem dX11_spread_27 : decode cX11_spread 27 = .ok (.getfield 10, 3) := by decide +kernel
theorem dX11_spread_30 : decode cX11_spread 30 = .ok (.invokevirtual 267, 3) := by decide +kernel
theorem dX11_spread_33 : decode cX11_spread 33 = .ok (.aload_n 0, 1) := by decide +kernel
theorem dX11_spread_34 : decode cX11_spread 34 = .ok (.getfield 10, 3) := by decide +kernel
theorem dX11_spread_37 : decode cX11_spread 37 = .ok (.invokevirtual 156, 3) := by decide +kernel
theorem dX11_spread_40 : decode cX11_spread 40 = .ok (.if_icmp .ne 6, 3) := by decide +kernel
theorem dX11_spread_43 : decode cX11_spread 43 = .ok (.bipush (-2), 2) := by decide +kernel
theorem dX11_spread_45 : decode cX11_spread 45 = .ok (.ireturn, 1) := by decide +kernel
set_option maxHeartbeats 4000000 in
set_option maxRecDepth 100000 in
theorem f_spread (l : Launch) (D : va_G) (cy : Nat → ClassId) (ad : Nat → Nat) (V J : Nat → Nat → Int) (Rr : Nat → Nat → Nat) (hV : VR V) (hJ : VJ J) (x1 x2 : Int) (hx1 : R32 x1) (hx2 : R32 x2) (hnp : NPl V 1) (hne : NPe V 1) (htl : V 58 1 = 0) : xMi l D (xTY cy) yX11_spread cX11_spread 4 (some .int) 2 42 0 0 [.ref (ad 0), vI x1, vI x2] (XW cy ad V J Rr) (fun _ : Unit => XW cy ad V J Rr) (fun r _ => (0 ≤ x1 ∧ x1 ≤ 24 ∧ (0 ≤ x2 ∧ x2 < 4 ∨ x2 = 10) ∧ r = -2) ∨ (¬ (0 ≤ x1 ∧ x1 ≤ 24 ∧ (0 ≤ x2 ∧ x2 < 4 ∨ x2 = 10)) ∧ r = -1)) := by
  refine xMi.mk (lv0 := [(0, .ref (ad 0)), (1, vI x1), (2, vI x2)]) (by decide) rfl (Nat.le_of_ble_eq_true rfl) (fun p e s m below meth c A C hr hnm hAe => ?_)
  have C : xC2 p s m _ meth c D A s.heap 4 cX11_spread RX11 (xTY cy) := C
  refine x_iload_n C.1 dX11_spread_0 1 rfl ?_
  refine x_iconst C.1 (n := 0) dX11_spread_1 ?_
  refine x_bipush C.1 (n := 24) dX11_spread_2 ?_
  refine x_callSi C (As := [vI x1, vI 0, vI 24]) (rest := []) (c_isWithin l D cy x1 0 24 hx1 (by decide) (by decide)) (l1 := []) (l2 := _) rfl (w2 := fun _ => _) (fun _ => rfl) rfl wm_yX11_isWithin wn_X11 wl_X11_74 wi_yX11_isWithin hd_yX11_isWithin rfl ⟨Nat.le_of_ble_eq_true rfl, Nat.le_of_ble_eq_true rfl⟩ (Nat.le_of_ble_eq_true rfl) ⟨Nat.le_of_ble_eq_true rfl, Nat.le_of_ble_eq_true rfl⟩ dX11_spread_4 (fun r1 u1 hr1 h1 => ?_)
  rcases h1 with ⟨rfl, t1, t1b⟩ | ⟨rfl, t1⟩
  · refine x_if_eq_f C.1 (tgt := 24) dX11_spread_7 (by decide) (by decide) (by decide) ?_
    refine x_iload_n C.1 dX11_spread_10 2 rfl ?_
    refine x_iconst C.1 (n := 4) dX11_spread_11 ?_
    refine x_callSi C (As := [vI x2, vI 4]) (rest := []) (c_isPlace l D cy x2 4 hx2 (by decide)) (l1 := []) (l2 := _) rfl (w2 := fun _ => _) (fun _ => rfl) rfl wm_yX11_isPlace wn_X11 wl_X11_70 wi_yX11_isPlace hd_yX11_isPlace rfl ⟨Nat.le_of_ble_eq_true rfl, Nat.le_of_ble_eq_true rfl⟩ (Nat.le_of_ble_eq_true rfl) ⟨Nat.le_of_ble_eq_true rfl, Nat.le_of_ble_eq_true rfl⟩ dX11_spread_12 (fun r2 u2 hr2 h2 => ?_)
    rcases h2 with ⟨rfl, t2, t2b⟩ | ⟨rfl, t2⟩
    · refine x_if_ne_t C.1 (tgt := 26) dX11_spread_15 (by decide) (by decide) (by decide) ?_
      refine x_aload_n C.1 dX11_spread_26 0 rfl ?_
      refine x_getA C (N := 129) (i := 0) (by decide) rfl vc_X11 wx_X11 0 (by decide) wf_X11_10 (a := 1) rfl dX11_spread_27 ?_
      refine x_callVi C (As := []) (rest := []) 1 (xw_at (N := 129) (i := 1) (by omega) (xd_L (Or.inl rfl))) vc_X3 (f_toldPlants l D cy ad V J Rr hV hJ 1 (Or.inl rfl) hnp) (l1 := []) (l2 := []) (List.append_nil _).symm (w2 := fun _ => XW cy ad V J Rr) (fun _ => List.append_nil _) rfl wm_yX3_toldPlants wn_X3 wl_X11_267 wi_yX3_toldPlants we_yX3_toldPlants hd_yX3_toldPlants rfl ⟨Nat.le_of_ble_eq_true rfl, Nat.le_of_ble_eq_true rfl⟩ (Nat.le_of_ble_eq_true rfl) ⟨Nat.le_of_ble_eq_true rfl, Nat.le_of_ble_eq_true rfl⟩ dX11_spread_30 (fun r3 u3 hr3 h3 => ?_)
      obtain rfl := h3
      refine x_aload_n C.1 dX11_spread_33 0 rfl ?_
      refine x_getA C (N := 129) (i := 0) (by decide) rfl vc_X11 wx_X11 0 (by decide) wf_X11_10 (a := 1) rfl dX11_spread_34 ?_
      refine x_callVi C (As := []) (rest := [vI 0]) 1 (xw_at (N := 129) (i := 1) (by omega) (xd_L (Or.inl rfl))) vc_X3 (f_deadBits l D cy ad V J Rr hV hJ 1 (Or.inl rfl) hnp) (l1 := []) (l2 := []) (List.append_nil _).symm (w2 := fun _ => XW cy ad V J Rr) (fun _ => List.append_nil _) rfl wm_yX3_deadBits wn_X3 wl_X11_156 wi_yX3_deadBits we_yX3_deadBits hd_yX3_deadBits rfl ⟨Nat.le_of_ble_eq_true rfl, Nat.le_of_ble_eq_true rfl⟩ (Nat.le_of_ble_eq_true rfl) ⟨Nat.le_of_ble_eq_true rfl, Nat.le_of_ble_eq_true rfl⟩ dX11_spread_37 (fun r4 u4 hr4 h4 => ?_)
      obtain rfl := h4
      refine x_icmp_ne_f C.1 (tgt := 46) dX11_spread_40 (by decide) (by decide) (by decide) (by decide) ?_
      refine x_bipush C.1 (n := -2) dX11_spread_43 ?_
      exact x_iret (S := Unit) (post := fun r _ => (0 ≤ x1 ∧ x1 ≤ 24 ∧ (0 ≤ x2 ∧ x2 < 4 ∨ x2 = 10) ∧ r = -2) ∨ (¬ (0 ≤ x1 ∧ x1 ≤ 24 ∧ (0 ≤ x2 ∧ x2 < 4 ∨ x2 = 10)) ∧ r = -1)) (w1 := fun _ : Unit => XW cy ad V J Rr) (a := (-2)) C hr rfl dX11_spread_45 (by decide) () rfl (by omega)
    · refine x_if_ne_f C.1 (tgt := 26) dX11_spread_15 (by decide) (by decide) (by decide) ?_
      refine x_iload_n C.1 dX11_spread_18 2 rfl ?_
      refine x_bipush C.1 (n := 10) dX11_spread_19 ?_
      refine x_icmp_eq C.1 (tgt := 26) dX11_spread_21 (by decide) hx2 (by decide) (fun c21_5 => ?_) (fun c21_5 => ?_)
      · refine x_aload_n C.1 dX11_spread_26 0 rfl ?_
        refine x_getA C (N := 129) (i := 0) (by decide) rfl vc_X11 wx_X11 0 (by decide) wf_X11_10 (a := 1) rfl dX11_spread_27 ?_
        refine x_callVi C (As := []) (rest := []) 1 (xw_at (N := 129) (i := 1) (by omega) (xd_L (Or.inl rfl))) vc_X3 (f_toldPlants l D cy ad V J Rr hV hJ 1 (Or.inl rfl) hnp) (l1 := []) (l2 := []) (List.append_nil _).symm (w2 := fun _ => XW cy ad V J Rr) (fun _ => List.append_nil _) rfl wm_yX3_toldPlants wn_X3 wl_X11_267 wi_yX3_toldPlants we_yX3_toldPlants hd_yX3_toldPlants rfl ⟨Nat.le_of_ble_eq_true rfl, Nat.le_of_ble_eq_true rfl⟩ (Nat.le_of_ble_eq_true rfl) ⟨Nat.le_of_ble_eq_true rfl, Nat.le_of_ble_eq_true rfl⟩ dX11_spread_30 (fun r6 u6 hr6 h6 => ?_)
        obtain rfl := h6
        refine x_aload_n C.1 dX11_spread_33 0 rfl ?_
        refine x_getA C (N := 129) (i := 0) (by decide) rfl vc_X11 wx_X11 0 (by decide) wf_X11_10 (a := 1) rfl dX11_spread_34 ?_
        refine x_callVi C (As := []) (rest := [vI 0]) 1 (xw_at (N := 129) (i := 1) (by omega) (xd_L (Or.inl rfl))) vc_X3 (f_deadBits l D cy ad V J Rr hV hJ 1 (Or.inl rfl) hnp) (l1 := []) (l2 := []) (List.append_nil _).symm (w2 := fun _ => XW cy ad V J Rr) (fun _ => List.append_nil _) rfl wm_yX3_deadBits wn_X3 wl_X11_156 wi_yX3_deadBits we_yX3_deadBits hd_yX3_deadBits rfl ⟨Nat.le_of_ble_eq_true rfl, Nat.le_of_ble_eq_true rfl⟩ (Nat.le_of_ble_eq_true rfl) ⟨Nat.le_of_ble_eq_true rfl, Nat.le_of_ble_eq_true rfl⟩ dX11_spread_37 (fun r7 u7 hr7 h7 => ?_)
        obtain rfl := h7
        refine x_icmp_ne_f C.1 (tgt := 46) dX11_spread_40 (by decide) (by decide) (by decide) (by decide) ?_
        refine x_bipush C.1 (n := -2) dX11_spread_43 ?_
        exact x_iret (S := Unit) (post := fun r _ => (0 ≤ x1 ∧ x1 ≤ 24 ∧ (0 ≤ x2 ∧ x2 < 4 ∨ x2 = 10) ∧ r = -2) ∨ (¬ (0 ≤ x1 ∧ x1 ≤ 24 ∧ (0 ≤ x2 ∧ x2 < 4 ∨ x2 = 10)) ∧ r = -1)) (w1 := fun _ : Unit => XW cy ad V J Rr) (a := (-2)) C hr rfl dX11_spread_45 (by decide) () rfl (by omega)
      · refine x_iconst C.1 (n := -1) dX11_spread_24 ?_
        exact x_iret (S := Unit) (post := fun r _ => (0 ≤ x1 ∧ x1 ≤ 24 ∧ (0 ≤ x2 ∧ x2 < 4 ∨ x2 = 10) ∧ r = -2) ∨ (¬ (0 ≤ x1 ∧ x1 ≤ 24 ∧ (0 ≤ x2 ∧ x2 < 4 ∨ x2 = 10)) ∧ r = -1)) (w1 := fun _ : Unit => XW cy ad V J Rr) (a := (-1)) C hr rfl dX11_spread_25 (by decide) () rfl (by omega)
  · refine x_if_eq_t C.1 (tgt := 24) dX11_spread_7 (by decide) (by decide) (by decide) ?_
    refine x_iconst C.1 (n := -1) dX11_spread_24 ?_
    exact x_iret (S := Unit) (post := fun r _ => (0 ≤ x1 ∧ x1 ≤ 24 ∧ (0 ≤ x2 ∧ x2 < 4 ∨ x2 = 10) ∧ r = -2) ∨ (¬ (0 ≤ x1 ∧ x1 ≤ 24 ∧ (0 ≤ x2 ∧ x2 < 4 ∨ x2 = 10)) ∧ r = -1)) (w1 := fun _ : Unit => XW cy ad V J Rr) (a := (-1)) C hr rfl dX11_spread_25 (by decide) () rfl (by omega)
theorem dX11_countPerson_0 : decode cX11_countPerson 0 = .ok (.aload_n 0, 1) := by decide +kernel
theorem dX11_countPerson_1 : decode cX11_countPerson 1 = .ok (.getfield 10, 3) := by decide +kernel
theorem dX11_countPerson_4 : decode cX11_countPerson 4 = .ok (.iload_n 2, 1) := by decide +kernel
theorem dX11_countPerson_5 : decode cX11_countPerson 5 = .ok (.invokevirtual 168, 3) := by decide +kernel
theorem dX11_countPerson_8 : decode cX11_countPerson 8 = .ok (.ifCond .ne 5, 3) := by decide +kernel
theorem dX11_countPerson_11 : decode cX11_countPerson 11 = .ok (.iconst (-1), 1) := by decide +kernel
theorem dX11_countPerson_12 : decode cX11_countPerson 12 = .ok (.ireturn, 1) := by decide +kernel
set_option maxHeartbeats 4000000 in
set_option maxRecDepth 100000 in
theorem f_countPerson (l : Launch) (D : va_G) (cy : Nat → ClassId) (ad : Nat → Nat) (V J : Nat → Nat → Int) (Rr : Nat → Nat → Nat) (hV : VR V) (hJ : VJ J) (x1 x2 : Int) (hx1 : R32 x1) (hx2 : R32 x2) (hnp : NPl V 1) (hne : NPe V 1) (htl : V 58 1 = 0) : xMi l D (xTY cy) yX11_countPerson cX11_countPerson 3 (some .int) 2 42 0 0 [.ref (ad 0), vI x1, vI x2] (XW cy ad V J Rr) (fun _ : Unit => XW cy ad V J Rr) (fun r _ => r = -1) := by
  refine xMi.mk (lv0 := [(0, .ref (ad 0)), (1, vI x1), (2, vI x2)]) (by decide) rfl (Nat.le_of_ble_eq_true rfl) (fun p e s m below meth c A C hr hnm hAe => ?_)
  have C : xC2 p s m _ meth c D A s.heap 3 cX11_countPerson RX11 (xTY cy) := C
  refine x_aload_n C.1 dX11_countPerson_0 0 rfl ?_
  refine x_getA C (N := 129) (i := 0) (by decide) rfl vc_X11 wx_X11 0 (by decide) wf_X11_10 (a := 1) rfl dX11_countPerson_1 ?_
  refine x_iload_n C.1 dX11_countPerson_4 2 rfl ?_
  refine x_callVi C (As := [vI x2]) (rest := []) 1 (xw_at (N := 129) (i := 1) (by omega) (xd_L (Or.inl rfl))) vc_X3 (c_isPerson l D cy ad V J Rr hV hJ 1 (Or.inl rfl) x2 hx2) (l1 := []) (l2 := []) (List.append_nil _).symm (w2 := fun _ => XW cy ad V J Rr) (fun _ => List.append_nil _) rfl wm_yX3_isPerson wn_X3 wl_X11_168 wi_yX3_isPerson we_yX3_isPerson hd_yX3_isPerson rfl ⟨Nat.le_of_ble_eq_true rfl, Nat.le_of_ble_eq_true rfl⟩ (Nat.le_of_ble_eq_true rfl) ⟨Nat.le_of_ble_eq_true rfl, Nat.le_of_ble_eq_true rfl⟩ dX11_countPerson_5 (fun r1 u1 hr1 h1 => ?_)
  rcases h1 with ⟨rfl, t1, t1b, t1c⟩ | ⟨rfl, t1⟩
  · exact absurd (hne _ (by omega)) t1c
  · refine x_if_ne_f C.1 (tgt := 13) dX11_countPerson_8 (by decide) (by decide) (by decide) ?_
    refine x_iconst C.1 (n := -1) dX11_countPerson_11 ?_
    exact x_iret (S := Unit) (post := fun r _ => r = -1) (w1 := fun _ : Unit => XW cy ad V J Rr) (a := (-1)) C hr rfl dX11_countPerson_12 (by decide) () rfl (by omega)
theorem hd_yX11_countPerson : yX11_countPerson.cls ≠ "java/lang/invoke/MethodHandle" ∧ yX11_countPerson.cls ≠ "java/lang/invoke/VarHandle" ∧ (parseMethodDescriptor yX11_countPerson.desc).map (fun d => d.parameters.length) = some 2 := by decide +kernel
theorem hd_yX3_toldPeople : yX3_toldPeople.cls ≠ "java/lang/invoke/MethodHandle" ∧ yX3_toldPeople.cls ≠ "java/lang/invoke/VarHandle" ∧ (parseMethodDescriptor yX3_toldPeople.desc).map (fun d => d.parameters.length) = some 0 := by decide +kernel
theorem dX11_count_0 : decode cX11_count 0 = .ok (.iload_n 1, 1) := by decide +kernel
theorem dX11_count_1 : decode cX11_count 1 = .ok (.bipush 10, 2) := by decide +kernel
theorem dX11_count_3 : decode cX11_count 3 = .ok (.isub, 1) := by decide +kernel
theorem dX11_count_4 : decode cX11_count 4 = .ok (.iconst 4, 1) := by decide +kernel
theorem dX11_count_5 : decode cX11_count 5 = .ok (.invokestatic 70, 3) := by decide +kernel
theorem dX11_count_8 : decode cX11_count 8 = .ok (.ifCond .eq 19, 3) := by decide +kernel
theorem dX11_count_11 : decode cX11_count 11 = .ok (.aload_n 0, 1) := by decide +kernel
theorem dX11_count_12 : decode cX11_count 12 = .ok (.getfield 34, 3) := by decide +kernel
theorem dX11_count_15 : decode cX11_count 15 = .ok (.getfield 336, 3) := by decide +kernel
theorem dX11_count_18 : decode cX11_count 18 = .ok (.iload_n 1, 1) := by decide +kernel
theorem dX11_count_19 : decode cX11_count 19 = .ok (.bipush 10, 2) := by decide +kernel
theorem dX11_count_21 : decode cX11_count 21 = .ok (.isub, 1) := by decide +kernel
theorem dX11_count_22 : decode cX11_count 22 = .ok (.aaload, 1) := by decide +kernel
theorem dX11_count_23 : decode cX11_count 23 = .ok (.getfield 340, 3) := by decide +kernel
theorem dX11_count_26 : decode cX11_count 26 = .ok (.ireturn, 1) := by decide +kernel
theorem dX11_count_27 : decode cX11_count 27 = .ok (.iload_n 1, 1) := by decide +kernel
theorem dX11_count_28 : decode cX11_count 28 = .ok (.bipush 20, 2) := by decide +kernel
theorem dX11_count_30 : decode cX11_count 30 = .ok (.if_icmp .lt 16, 3) := by decide +kernel
theorem dX11_count_33 : decode cX11_count 33 = .ok (.aload_n 0, 1) := by decide +kernel
theorem dX11_count_34 : decode cX11_count 34 = .ok (.iload_n 1, 1) := by decide +kernel
theorem dX11_count_35 : decode cX11_count 35 = .ok (.bipush 10, 2) := by decide +kernel
theorem dX11_count_37 : decode cX11_count 37 = .ok (.idiv, 1) := by decide +kernel
theorem dX11_count_38 : decode cX11_count 38 = .ok (.iload_n 1, 1) := by decide +kernel
theorem dX11_count_39 : decode cX11_count 39 = .ok (.bipush 10, 2) := by decide +kernel
theorem dX11_count_41 : decode cX11_count 41 = .ok (.irem, 1) := by decide +kernel
theorem dX11_count_42 : decode cX11_count 42 = .ok (.invokevirtual 343, 3) := by decide +kernel
theorem dX11_count_45 : decode cX11_count 45 = .ok (.ireturn, 1) := by decide +kernel
theorem dX11_count_46 : decode cX11_count 46 = .ok (.iload_n 1, 1) := by decide +kernel
theorem dX11_count_47 : decode cX11_count 47 = .ok (.tableswitch 100 0 6 #[41, 49, 57, 65, 73, 84, 92], 41) := by decide +kernel
theorem dX11_count_88 : decode cX11_count 88 = .ok (.aload_n 0, 1) := by decide +kernel
theorem dX11_count_89 : decode cX11_count 89 = .ok (.getfield 10, 3) := by decide +kernel
theorem dX11_count_92 : decode cX11_count 92 = .ok (.getfield 296, 3) := by decide +kernel
theorem dX11_count_95 : decode cX11_count 95 = .ok (.ireturn, 1) := by decide +kernel
theorem dX11_count_96 : decode cX11_count 96 = .ok (.aload_n 0, 1) := by decide +kernel
theorem dX11_count_97 : decode cX11_count 97 = .ok (.getfield 10, 3) := by decide +kernel
theorem dX11_count_100 : decode cX11_count 100 = .ok (.invokevirtual 267, 3) := by decide +kernel
theorem dX11_count_103 : decode cX11_count 103 = .ok (.ireturn, 1) := by decide +kernel
theorem dX11_count_104 : decode cX11_count 104 = .ok (.aload_n 0, 1) := by decide +kernel
theorem dX11_count_105 : decode cX11_count 105 = .ok (.getfield 10, 3) := by decide +kernel
theorem dX11_count_108 : decode cX11_count 108 = .ok (.invokevirtual 156, 3) := by decide +kernel
theorem dX11_count_111 : decode cX11_count 111 = .ok (.ireturn, 1) := by decide +kernel
theorem dX11_count_112 : decode cX11_count 112 = .ok (.aload_n 0, 1) := by decide +kernel
theorem dX11_count_113 : decode cX11_count 113 = .ok (.getfield 10, 3) := by decide +kernel
theorem dX11_count_116 : decode cX11_count 116 = .ok (.invokevirtual 346, 3) := by decide +kernel
theorem dX11_count_119 : decode cX11_count 119 = .ok (.ireturn, 1) := by decide +kernel
theorem dX11_count_120 : decode cX11_count 120 = .ok (.aload_n 0, 1) := by decide +kernel
theorem dX11_count_121 : decode cX11_count 121 = .ok (.getfield 34, 3) := by decide +kernel
theorem dX11_count_124 : decode cX11_count 124 = .ok (.getfield 349, 3) := by decide +kernel
theorem dX11_count_127 : decode cX11_count 127 = .ok (.getfield 340, 3) := by decide +kernel
theorem dX11_count_130 : decode cX11_count 130 = .ok (.ireturn, 1) := by decide +kernel
theorem dX11_count_131 : decode cX11_count 131 = .ok (.aload_n 0, 1) := by decide +kernel
theorem dX11_count_132 : decode cX11_count 132 = .ok (.getfield 25, 3) := by decide +kernel
theorem dX11_count_135 : decode cX11_count 135 = .ok (.getfield 120, 3) := by decide +kernel
theorem dX11_count_138 : decode cX11_count 138 = .ok (.ireturn, 1) := by decide +kernel
theorem dX11_count_139 : decode cX11_count 139 = .ok (.aload_n 0, 1) := by decide +kernel
theorem dX11_count_140 : decode cX11_count 140 = .ok (.getfield 10, 3) := by decide +kernel
theorem dX11_count_143 : decode cX11_count 143 = .ok (.getfield 327, 3) := by decide +kernel
theorem dX11_count_146 : decode cX11_count 146 = .ok (.ireturn, 1) := by decide +kernel
theorem dX11_count_147 : decode cX11_count 147 = .ok (.iconst (-1), 1) := by decide +kernel
theorem dX11_count_148 : decode cX11_count 148 = .ok (.ireturn, 1) := by decide +kernel
set_option maxHeartbeats 4000000 in
set_option maxRecDepth 100000 in
theorem f_count (l : Launch) (D : va_G) (cy : Nat → ClassId) (ad : Nat → Nat) (V J : Nat → Nat → Int) (Rr : Nat → Nat → Nat) (hV : VR V) (hJ : VJ J) (x1 : Int) (hx1 : R32 x1) (hnp : NPl V 1) (hne : NPe V 1) (htl : V 58 1 = 0) (hcl : ∀ t, isTx t → V t 5 = 0) (hlw : Rr 60 0 = 61) (hru : ∀ q, q < 4 → Rr 66 q = 78 + 5 * q) (hdy : V 1 3 = 0) (hxx : V 1 4 = 1) : xMi l D (xTY cy) yX11_count cX11_count 2 (some .int) 3 64 0 0 [.ref (ad 0), vI x1] (XW cy ad V J Rr) (fun _ : Unit => XW cy ad V J Rr) (fun r _ => (x1 = 6 ∧ r = 1) ∨ ((0 ≤ x1 ∧ x1 ≤ 5 ∨ 10 ≤ x1 ∧ x1 ≤ 13) ∧ r = 0) ∨ (¬ (0 ≤ x1 ∧ x1 ≤ 6 ∨ 10 ≤ x1 ∧ x1 ≤ 13) ∧ r = -1)) := by
  refine xMi.mk (lv0 := [(0, .ref (ad 0)), (1, vI x1)]) (by decide) rfl (Nat.le_of_ble_eq_true rfl) (fun p e s m below meth c A C hr hnm hAe => ?_)
  have C : xC2 p s m _ meth c D A s.heap 2 cX11_count RX11 (xTY cy) := C
  refine x_iload_n C.1 dX11_count_0 1 rfl ?_
  refine x_bipush C.1 (n := 10) dX11_count_1 ?_
  refine x_isub C.1 (v := x1 - 10) rfl dX11_count_3 ?_
  refine x_wrap ?_
  have hw1 := wr_cases (z := x1 - 10) (by omega)
  refine x_iconst C.1 (n := 4) dX11_count_4 ?_
  refine x_callSi C (As := [vI (wr (x1 - 10)), vI 4]) (rest := []) (c_isPlace l D cy (wr (x1 - 10)) 4 (wr_r _) (by decide)) (l1 := []) (l2 := _) rfl (w2 := fun _ => _) (fun _ => rfl) rfl wm_yX11_isPlace wn_X11 wl_X11_70 wi_yX11_isPlace hd_yX11_isPlace rfl ⟨Nat.le_of_ble_eq_true rfl, Nat.le_of_ble_eq_true rfl⟩ (Nat.le_of_ble_eq_true rfl) ⟨Nat.le_of_ble_eq_true rfl, Nat.le_of_ble_eq_true rfl⟩ dX11_count_5 (fun r2 u2 hr2 h2 => ?_)
  rcases h2 with ⟨rfl, t2, t2b⟩ | ⟨rfl, t2⟩
  · refine x_if_eq_f C.1 (tgt := 27) dX11_count_8 (by decide) (by decide) (by decide) ?_
    refine x_aload_n C.1 dX11_count_11 0 rfl ?_
    refine x_getA C (N := 129) (i := 0) (by decide) rfl vc_X11 wx_X11 5 (by decide) wf_X11_34 (a := 60) rfl dX11_count_12 ?_
    refine x_getA C (N := 129) (i := 60) (by decide) rfl vc_X1 wx_X1 1 (by decide) wf_X11_336 (a := 66) rfl dX11_count_15 ?_
    refine x_iload_n C.1 dX11_count_18 1 rfl ?_
    refine x_bipush C.1 (n := 10) dX11_count_19 ?_
    refine x_isub C.1 (v := x1 - 10) rfl dX11_count_21 ?_
    refine x_wrap ?_
    have hw3 := wr_cases (z := x1 - 10) (by omega)
    refine x_aldR C (N := 129) (i := 66) (q := wr (x1 - 10)) (t := 6) rfl (by decide) rfl (by omega) (by decide) dX11_count_22 (a := 78 + 5 * (wr (x1 - 10)).toNat) (hru _ (by omega)) ?_
    refine x_getI C (N := 129) (i := 78 + 5 * (wr (x1 - 10)).toNat) (by omega) (xd_T (isTx_r (q := (wr (x1 - 10)).toNat) (by omega))) vc_X9 wx_X9 5 (by decide) wf_X11_340 rfl dX11_count_23 (a := 0) (hcl _ (isTx_r (by omega))) ?_
    exact x_iret (S := Unit) (post := fun r _ => (x1 = 6 ∧ r = 1) ∨ ((0 ≤ x1 ∧ x1 ≤ 5 ∨ 10 ≤ x1 ∧ x1 ≤ 13) ∧ r = 0) ∨ (¬ (0 ≤ x1 ∧ x1 ≤ 6 ∨ 10 ≤ x1 ∧ x1 ≤ 13) ∧ r = -1)) (w1 := fun _ : Unit => XW cy ad V J Rr) (a := 0) C hr rfl dX11_count_26 (by decide) () rfl (by omega)
  · refine x_if_eq_t C.1 (tgt := 27) dX11_count_8 (by decide) (by decide) (by decide) ?_
    refine x_iload_n C.1 dX11_count_27 1 rfl ?_
    refine x_bipush C.1 (n := 20) dX11_count_28 ?_
    refine x_icmp_lt C.1 (tgt := 46) dX11_count_30 (by decide) hx1 (by decide) (fun c30_4 => ?_) (fun c30_4 => ?_)
    · refine x_iload_n C.1 dX11_count_46 1 rfl ?_
      by_cases hs47_5 : x1 = 0
      · refine x_tabIn C.1 0 hs47_5 (by decide) (tgt := 88) dX11_count_47 (by decide) (by decide) rfl (by decide) ?_
        refine x_aload_n C.1 dX11_count_88 0 rfl ?_
        refine x_getA C (N := 129) (i := 0) (by decide) rfl vc_X11 wx_X11 0 (by decide) wf_X11_10 (a := 1) rfl dX11_count_89 ?_
        refine x_getI C (N := 129) (i := 1) (by omega) (xd_L (Or.inl rfl)) vc_X3 wx_X3 3 (by decide) wf_X11_296 rfl dX11_count_92 (a := 0) hdy ?_
        exact x_iret (S := Unit) (post := fun r _ => (x1 = 6 ∧ r = 1) ∨ ((0 ≤ x1 ∧ x1 ≤ 5 ∨ 10 ≤ x1 ∧ x1 ≤ 13) ∧ r = 0) ∨ (¬ (0 ≤ x1 ∧ x1 ≤ 6 ∨ 10 ≤ x1 ∧ x1 ≤ 13) ∧ r = -1)) (w1 := fun _ : Unit => XW cy ad V J Rr) (a := 0) C hr rfl dX11_count_95 (by decide) () rfl (by omega)
      by_cases hs47_6 : x1 = 1
      · refine x_tabIn C.1 1 hs47_6 (by decide) (tgt := 96) dX11_count_47 (by decide) (by decide) rfl (by decide) ?_
        refine x_aload_n C.1 dX11_count_96 0 rfl ?_
        refine x_getA C (N := 129) (i := 0) (by decide) rfl vc_X11 wx_X11 0 (by decide) wf_X11_10 (a := 1) rfl dX11_count_97 ?_
        refine x_callVi C (As := []) (rest := []) 1 (xw_at (N := 129) (i := 1) (by omega) (xd_L (Or.inl rfl))) vc_X3 (f_toldPlants l D cy ad V J Rr hV hJ 1 (Or.inl rfl) hnp) (l1 := []) (l2 := []) (List.append_nil _).symm (w2 := fun _ => XW cy ad V J Rr) (fun _ => List.append_nil _) rfl wm_yX3_toldPlants wn_X3 wl_X11_267 wi_yX3_toldPlants we_yX3_toldPlants hd_yX3_toldPlants rfl ⟨Nat.le_of_ble_eq_true rfl, Nat.le_of_ble_eq_true rfl⟩ (Nat.le_of_ble_eq_true rfl) ⟨Nat.le_of_ble_eq_true rfl, Nat.le_of_ble_eq_true rfl⟩ dX11_count_100 (fun r7 u7 hr7 h7 => ?_)
        obtain rfl := h7
        exact x_iret (S := Unit) (post := fun r _ => (x1 = 6 ∧ r = 1) ∨ ((0 ≤ x1 ∧ x1 ≤ 5 ∨ 10 ≤ x1 ∧ x1 ≤ 13) ∧ r = 0) ∨ (¬ (0 ≤ x1 ∧ x1 ≤ 6 ∨ 10 ≤ x1 ∧ x1 ≤ 13) ∧ r = -1)) (w1 := fun _ : Unit => XW cy ad V J Rr) (a := 0) C hr rfl dX11_count_103 (by decide) () rfl (by omega)
      by_cases hs47_8 : x1 = 2
      · refine x_tabIn C.1 2 hs47_8 (by decide) (tgt := 104) dX11_count_47 (by decide) (by decide) rfl (by decide) ?_
        refine x_aload_n C.1 dX11_count_104 0 rfl ?_
        refine x_getA C (N := 129) (i := 0) (by decide) rfl vc_X11 wx_X11 0 (by decide) wf_X11_10 (a := 1) rfl dX11_count_105 ?_
        refine x_callVi C (As := []) (rest := []) 1 (xw_at (N := 129) (i := 1) (by omega) (xd_L (Or.inl rfl))) vc_X3 (f_deadBits l D cy ad V J Rr hV hJ 1 (Or.inl rfl) hnp) (l1 := []) (l2 := []) (List.append_nil _).symm (w2 := fun _ => XW cy ad V J Rr) (fun _ => List.append_nil _) rfl wm_yX3_deadBits wn_X3 wl_X11_156 wi_yX3_deadBits we_yX3_deadBits hd_yX3_deadBits rfl ⟨Nat.le_of_ble_eq_true rfl, Nat.le_of_ble_eq_true rfl⟩ (Nat.le_of_ble_eq_true rfl) ⟨Nat.le_of_ble_eq_true rfl, Nat.le_of_ble_eq_true rfl⟩ dX11_count_108 (fun r9 u9 hr9 h9 => ?_)
        obtain rfl := h9
        exact x_iret (S := Unit) (post := fun r _ => (x1 = 6 ∧ r = 1) ∨ ((0 ≤ x1 ∧ x1 ≤ 5 ∨ 10 ≤ x1 ∧ x1 ≤ 13) ∧ r = 0) ∨ (¬ (0 ≤ x1 ∧ x1 ≤ 6 ∨ 10 ≤ x1 ∧ x1 ≤ 13) ∧ r = -1)) (w1 := fun _ : Unit => XW cy ad V J Rr) (a := 0) C hr rfl dX11_count_111 (by decide) () rfl (by omega)
      by_cases hs47_10 : x1 = 3
      · refine x_tabIn C.1 3 hs47_10 (by decide) (tgt := 112) dX11_count_47 (by decide) (by decide) rfl (by decide) ?_
        refine x_aload_n C.1 dX11_count_112 0 rfl ?_
        refine x_getA C (N := 129) (i := 0) (by decide) rfl vc_X11 wx_X11 0 (by decide) wf_X11_10 (a := 1) rfl dX11_count_113 ?_
        refine x_callVi C (As := []) (rest := []) 1 (xw_at (N := 129) (i := 1) (by omega) (xd_L (Or.inl rfl))) vc_X3 (f_toldPeople l D cy ad V J Rr hV hJ 1 (Or.inl rfl) hne) (l1 := []) (l2 := []) (List.append_nil _).symm (w2 := fun _ => XW cy ad V J Rr) (fun _ => List.append_nil _) rfl wm_yX3_toldPeople wn_X3 wl_X11_346 wi_yX3_toldPeople we_yX3_toldPeople hd_yX3_toldPeople rfl ⟨Nat.le_of_ble_eq_true rfl, Nat.le_of_ble_eq_true rfl⟩ (Nat.le_of_ble_eq_true rfl) ⟨Nat.le_of_ble_eq_true rfl, Nat.le_of_ble_eq_true rfl⟩ dX11_count_116 (fun r11 u11 hr11 h11 => ?_)
        obtain rfl := h11
        exact x_iret (S := Unit) (post := fun r _ => (x1 = 6 ∧ r = 1) ∨ ((0 ≤ x1 ∧ x1 ≤ 5 ∨ 10 ≤ x1 ∧ x1 ≤ 13) ∧ r = 0) ∨ (¬ (0 ≤ x1 ∧ x1 ≤ 6 ∨ 10 ≤ x1 ∧ x1 ≤ 13) ∧ r = -1)) (w1 := fun _ : Unit => XW cy ad V J Rr) (a := 0) C hr rfl dX11_count_119 (by decide) () rfl (by omega)
      by_cases hs47_12 : x1 = 4
      · refine x_tabIn C.1 4 hs47_12 (by decide) (tgt := 120) dX11_count_47 (by decide) (by decide) rfl (by decide) ?_
        refine x_aload_n C.1 dX11_count_120 0 rfl ?_
        refine x_getA C (N := 129) (i := 0) (by decide) rfl vc_X11 wx_X11 5 (by decide) wf_X11_34 (a := 60) rfl dX11_count_121 ?_
        refine x_getR C (N := 129) (i := 60) (by decide) rfl vc_X1 wx_X1 0 (by decide) wf_X11_349 rfl dX11_count_124 (a := 61) hlw ?_
        refine x_getI C (N := 129) (i := 61) (by omega) (xd_T (Or.inl rfl)) vc_X9 wx_X9 5 (by decide) wf_X11_340 rfl dX11_count_127 (a := 0) (hcl _ (Or.inl rfl)) ?_
        exact x_iret (S := Unit) (post := fun r _ => (x1 = 6 ∧ r = 1) ∨ ((0 ≤ x1 ∧ x1 ≤ 5 ∨ 10 ≤ x1 ∧ x1 ≤ 13) ∧ r = 0) ∨ (¬ (0 ≤ x1 ∧ x1 ≤ 6 ∨ 10 ≤ x1 ∧ x1 ≤ 13) ∧ r = -1)) (w1 := fun _ : Unit => XW cy ad V J Rr) (a := 0) C hr rfl dX11_count_130 (by decide) () rfl (by omega)
      by_cases hs47_13 : x1 = 5
      · refine x_tabIn C.1 5 hs47_13 (by decide) (tgt := 131) dX11_count_47 (by decide) (by decide) rfl (by decide) ?_
        refine x_aload_n C.1 dX11_count_131 0 rfl ?_
        refine x_getA C (N := 129) (i := 0) (by decide) rfl vc_X11 wx_X11 4 (by decide) wf_X11_25 (a := 58) rfl dX11_count_132 ?_
        refine x_getI C (N := 129) (i := 58) (by decide) rfl vc_X8 wx_X8 1 (by decide) wf_X11_120 rfl dX11_count_135 (a := 0) htl ?_
        exact x_iret (S := Unit) (post := fun r _ => (x1 = 6 ∧ r = 1) ∨ ((0 ≤ x1 ∧ x1 ≤ 5 ∨ 10 ≤ x1 ∧ x1 ≤ 13) ∧ r = 0) ∨ (¬ (0 ≤ x1 ∧ x1 ≤ 6 ∨ 10 ≤ x1 ∧ x1 ≤ 13) ∧ r = -1)) (w1 := fun _ : Unit => XW cy ad V J Rr) (a := 0) C hr rfl dX11_count_138 (by decide) () rfl (by omega)
      by_cases hs47_14 : x1 = 6
      · refine x_tabIn C.1 6 hs47_14 (by decide) (tgt := 139) dX11_count_47 (by decide) (by decide) rfl (by decide) ?_
        refine x_aload_n C.1 dX11_count_139 0 rfl ?_
        refine x_getA C (N := 129) (i := 0) (by decide) rfl vc_X11 wx_X11 0 (by decide) wf_X11_10 (a := 1) rfl dX11_count_140 ?_
        refine x_getI C (N := 129) (i := 1) (by omega) (xd_L (Or.inl rfl)) vc_X3 wx_X3 4 (by decide) wf_X11_327 rfl dX11_count_143 (a := 1) hxx ?_
        exact x_iret (S := Unit) (post := fun r _ => (x1 = 6 ∧ r = 1) ∨ ((0 ≤ x1 ∧ x1 ≤ 5 ∨ 10 ≤ x1 ∧ x1 ≤ 13) ∧ r = 0) ∨ (¬ (0 ≤ x1 ∧ x1 ≤ 6 ∨ 10 ≤ x1 ∧ x1 ≤ 13) ∧ r = -1)) (w1 := fun _ : Unit => XW cy ad V J Rr) (a := 1) C hr rfl dX11_count_146 (by decide) () rfl (by omega)
      refine x_tabOut C.1 (tgt := 147) hx1 dX11_count_47 (by omega) (by decide) ?_
      refine x_iconst C.1 (n := -1) dX11_count_147 ?_
      exact x_iret (S := Unit) (post := fun r _ => (x1 = 6 ∧ r = 1) ∨ ((0 ≤ x1 ∧ x1 ≤ 5 ∨ 10 ≤ x1 ∧ x1 ≤ 13) ∧ r = 0) ∨ (¬ (0 ≤ x1 ∧ x1 ≤ 6 ∨ 10 ≤ x1 ∧ x1 ≤ 13) ∧ r = -1)) (w1 := fun _ : Unit => XW cy ad V J Rr) (a := (-1)) C hr rfl dX11_count_148 (by decide) () rfl (by omega)
    · refine x_aload_n C.1 dX11_count_33 0 rfl ?_
      refine x_iload_n C.1 dX11_count_34 1 rfl ?_
      refine x_bipush C.1 (n := 10) dX11_count_35 ?_
      refine x_idiv C.1 (v := iDiv x1 10) rfl dX11_count_37 (by decide) (by decide) ?_
      refine x_iload_n C.1 dX11_count_38 1 rfl ?_
      refine x_bipush C.1 (n := 10) dX11_count_39 ?_
      refine x_irem C.1 (v := iRem x1 10) rfl dX11_count_41 (by decide) (by decide) ?_
      refine x_callVi C (As := [vI (iDiv x1 10), vI (iRem x1 10)]) (rest := []) 0 (xw_at (N := 129) (i := 0) (by decide) rfl) vc_X11 (f_countPerson l D cy ad V J Rr hV hJ (iDiv x1 10) (iRem x1 10) (xi_r _) (xi_r _) hnp hne htl) (l1 := []) (l2 := []) (List.append_nil _).symm (w2 := fun _ => XW cy ad V J Rr) (fun _ => List.append_nil _) rfl wm_yX11_countPerson wn_X11 wl_X11_343 wi_yX11_countPerson we_yX11_countPerson hd_yX11_countPerson rfl ⟨Nat.le_of_ble_eq_true rfl, Nat.le_of_ble_eq_true rfl⟩ (Nat.le_of_ble_eq_true rfl) ⟨Nat.le_of_ble_eq_true rfl, Nat.le_of_ble_eq_true rfl⟩ dX11_count_42 (fun r15 u15 hr15 h15 => ?_)
      obtain rfl := h15
      exact x_iret (S := Unit) (post := fun r _ => (x1 = 6 ∧ r = 1) ∨ ((0 ≤ x1 ∧ x1 ≤ 5 ∨ 10 ≤ x1 ∧ x1 ≤ 13) ∧ r = 0) ∨ (¬ (0 ≤ x1 ∧ x1 ≤ 6 ∨ 10 ≤ x1 ∧ x1 ≤ 13) ∧ r = -1)) (w1 := fun _ : Unit => XW cy ad V J Rr) (a := (-1)) C hr rfl dX11_count_45 (by decide) () rfl (by omega)
