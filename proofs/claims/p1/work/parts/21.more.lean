theorem dJ7_fill_53178_0 : decode cJ7_fill_53178 0 = .ok (.iconst 0, 1) := by decide +kernel
theorem dJ7_fill_53178_1 : decode cJ7_fill_53178 1 = .ok (.istore_n 2, 1) := by decide +kernel
theorem dJ7_fill_53178_2 : decode cJ7_fill_53178 2 = .ok (.aload_n 0, 1) := by decide +kernel
theorem dJ7_fill_53178_3 : decode cJ7_fill_53178 3 = .ok (.arraylength, 1) := by decide +kernel
theorem dJ7_fill_53178_4 : decode cJ7_fill_53178 4 = .ok (.istore_n 3, 1) := by decide +kernel
theorem dJ7_fill_53178_5 : decode cJ7_fill_53178 5 = .ok (.iload_n 2, 1) := by decide +kernel
theorem dJ7_fill_53178_6 : decode cJ7_fill_53178 6 = .ok (.iload_n 3, 1) := by decide +kernel
theorem dJ7_fill_53178_7 : decode cJ7_fill_53178 7 = .ok (.if_icmp .ge 13, 3) := by decide +kernel
theorem dJ7_fill_53178_10 : decode cJ7_fill_53178 10 = .ok (.aload_n 0, 1) := by decide +kernel
theorem dJ7_fill_53178_11 : decode cJ7_fill_53178 11 = .ok (.iload_n 2, 1) := by decide +kernel
theorem dJ7_fill_53178_12 : decode cJ7_fill_53178 12 = .ok (.iload_n 1, 1) := by decide +kernel
theorem dJ7_fill_53178_13 : decode cJ7_fill_53178 13 = .ok (.iastore, 1) := by decide +kernel
theorem dJ7_fill_53178_14 : decode cJ7_fill_53178 14 = .ok (.iinc 2 1, 3) := by decide +kernel
theorem dJ7_fill_53178_17 : decode cJ7_fill_53178 17 = .ok (.goto (-12), 3) := by decide +kernel
theorem dJ7_fill_53178_20 : decode cJ7_fill_53178 20 = .ok (.return_, 1) := by decide +kernel
set_option maxHeartbeats 4000000 in
set_option maxRecDepth 100000 in
theorem c_fill (l : Launch) (D : va_G) (cy : Nat → ClassId) (ad : Nat → Nat) (V J : Nat → Nat → Int) (Rr : Nat → Nat → Nat) (hV : VR V) (hJ : VJ J) (ca n b0 d0 : Nat) (v : Int) (hc : ca < 129) (hd : xdsc ca = .inr (0, n, 0, b0, d0)) (hn : n < 2147483648) (hv : R32 v) : xMv l D (xTY cy) yJ7_fill_53178 cJ7_fill_53178 4 none 0 0 0 0 [.ref (ad ca), vI v] (XW cy ad V J Rr) (fun u : xS => XW cy ad u.1 u.2.1 u.2.2) (fun u => u = (flV V ca n v, J, Rr)) := by
  refine xMv.mk (lv0 := [(0, .ref (ad ca)), (1, vI v)]) (by decide) rfl (Nat.le_of_ble_eq_true rfl) (fun p e s m below meth c A C hr hnm hAe => ?_)
  have C : xC2 p s m _ meth c D A s.heap 4 cJ7_fill_53178 RJ7 (xTY cy) := C
  refine x_iconst C.1 (n := 0) dJ7_fill_53178_0 ?_
  refine x_istore_n C.1 (lv' := [(2, vI 0), (0, .ref (ad ca)), (1, vI v)]) dJ7_fill_53178_1 (by decide) rfl ?_
  refine x_aload_n C.1 dJ7_fill_53178_2 1 rfl ?_
  refine x_alenI C (N := 129) (i := ca) (t := 0) rfl hc hd dJ7_fill_53178_3 ?_
  refine x_istore_n C.1 (lv' := [(3, vI (n : Int)), (2, vI 0), (0, .ref (ad ca)), (1, vI v)]) dJ7_fill_53178_4 (by decide) rfl ?_
  refine x_loop (I := fun zi : Nat => zi ≤ n) (μ := fun zi : Nat => n - zi) (wsf := fun zi : Nat => XW cy ad (flV V ca zi v) J Rr) (lvf := fun zi : Nat => [(3, vI (n : Int)), (2, vI (zi : Int)), (0, .ref (ad ca)), (1, vI v)]) (fun zi hI ih1 => ?_) (0) (Nat.zero_le _) (by (try dsimp only); rw [flV_0]) rfl
  obtain hI := hI
  try dsimp only
  refine x_iload_n C.1 dJ7_fill_53178_5 1 rfl ?_
  refine x_iload_n C.1 dJ7_fill_53178_6 0 rfl ?_
  refine x_icmp_ge C.1 (tgt := 20) dJ7_fill_53178_7 (by decide) (by omega) (by omega) (fun c7_2 => ?_) (fun c7_2 => ?_)
  · exact x_vret (S := xS) (post := fun u => u = (flV V ca n v, J, Rr)) (w1 := fun u : xS => XW cy ad u.1 u.2.1 u.2.2) C hr rfl dJ7_fill_53178_20 ((flV V ca zi v), J, Rr) rfl (by rw [show zi = n by omega])
  · refine x_aload_n C.1 dJ7_fill_53178_10 2 rfl ?_
    refine x_iload_n C.1 dJ7_fill_53178_11 1 rfl ?_
    refine x_iload_n C.1 dJ7_fill_53178_12 3 rfl ?_
    refine x_iast C (N := 129) (i := ca) (q := (zi : Int)) (a := v) hc hd (by omega) hn dJ7_fill_53178_13 ?_
    refine x_iinc C.1 (v := (zi : Int) + 1) (lv' := [(2, vI ((zi : Int) + 1)), (3, vI (n : Int)), (0, .ref (ad ca)), (1, vI v)]) rfl dJ7_fill_53178_14 1 rfl (by decide) rfl ?_
    refine x_goto C.1 (tgt := 5) dJ7_fill_53178_17 (by decide) ?_
    refine x_lv [(3, vI (n : Int)), (2, vI ((zi : Int) + 1)), (0, .ref (ad ca)), (1, vI v)] [1, 0, 2, 3] rfl ?_
    rw [Int.toNat_natCast, flV_s, ← Int.natCast_add_one]
    exact ih1 (zi + 1) (by (try dsimp only); omega) (by (try dsimp only); omega)
