set_option maxHeartbeats 8000000 in
set_option maxRecDepth 100000 in
theorem law_body {p : Program} {e : Env} {s : State} {m : MethodId} {below : List Frame} {meth : Method} {c : Code} (l : Launch) (D : va_G) (cy : Nat → ClassId) {b L : Nat} {xs : Nat → Int32} (aK aV : Nat → Nat) (C : xC2 p s m #[Value.ref b] meth c D (fun q => s.heap.size ≤ q) s.heap 4 code RL (xTY cy)) (hE : zE aK aV (fun q => s.heap.size ≤ q) s s.heap) (hr : meth.sig.returnType = ret) (hX : va_X b L xs s s.heap) (hbl : b < s.heap.size) (hbA : ¬ (fun q : Nat => s.heap.size ≤ q) b) (hL : L ≤ 3072) (ux um : Nat → Nat) (Vx Jx : Nat → Nat → Int) (Rx : Nat → Nat → Nat) (Vm Jm : Nat → Nat → Int) (Rm : Nat → Nat → Nat) (hLI : LI Vx Jx Rx Vm Jm Rm) : xW p l e room_1 s m #[Value.ref b] below meth c D (fun q => s.heap.size ≤ q) s.heap 4 162 8366 (lw_Z below #[Value.ref b] s) (XW cy ux Vx Jx Rx ++ MW cy um Vm Jm Rm) 18 [(3, vI 0), (2, .ref (um 0)), (1, .ref (ux 0)), (0, .ref b)] [] := by
  refine x_loop (I := fun x : Int × (Nat → Nat → Int) × (Nat → Nat → Int) × (Nat → Nat → Nat) × (Nat → Nat → Int) × (Nat → Nat → Int) × (Nat → Nat → Nat) => match x with | (i, Vx, Jx, Rx, Vm, Jm, Rm) => (0 ≤ i ∧ i ≤ L + 6) ∧ LI Vx Jx Rx Vm Jm Rm) (μ := fun x : Int × (Nat → Nat → Int) × (Nat → Nat → Int) × (Nat → Nat → Nat) × (Nat → Nat → Int) × (Nat → Nat → Int) × (Nat → Nat → Nat) => match x with | (i, Vx, Jx, Rx, Vm, Jm, Rm) => ((L : Int) + 6 - i).toNat) (wsf := fun x : Int × (Nat → Nat → Int) × (Nat → Nat → Int) × (Nat → Nat → Nat) × (Nat → Nat → Int) × (Nat → Nat → Int) × (Nat → Nat → Nat) => match x with | (i, Vx, Jx, Rx, Vm, Jm, Rm) => XW cy ux Vx Jx Rx ++ MW cy um Vm Jm Rm) (lvf := fun x : Int × (Nat → Nat → Int) × (Nat → Nat → Int) × (Nat → Nat → Nat) × (Nat → Nat → Int) × (Nat → Nat → Int) × (Nat → Nat → Nat) => match x with | (i, Vx, Jx, Rx, Vm, Jm, Rm) => [(3, vI i), (2, .ref (um 0)), (1, .ref (ux 0)), (0, .ref b)]) (fun x hIx ih => ?_) (0, Vx, Jx, Rx, Vm, Jm, Rm) ⟨⟨by omega, by omega⟩, hLI⟩ rfl rfl
  obtain ⟨i, Vx, Jx, Rx, Vm, Jm, Rm⟩ := x
  obtain ⟨hi, hLI⟩ := hIx
  dsimp only
  refine x_iload_n C.1 dL_law_18 0 rfl ?_
  refine x_aload_n C.1 dL_law_19 3 rfl ?_
  refine x_slen C (b := b) hX hbl hbA dL_law_20 ?_
  refine x_bipush C.1 (n := 6) dL_law_21 ?_
  refine x_isub C.1 rfl dL_law_23 ?_
  refine x_icmp_gt C.1 (tgt := 1501) dL_law_24 (by decide) (by omega) (by omega) (fun hgt => ?_) (fun hgt => ?_)
  · refine x_iconst C.1 (n := 1) dL_law_1501 ?_
    exact x_lend C hr dL_law_1502 (Nat.le_of_ble_eq_true rfl) (Nat.le_of_ble_eq_true rfl)
  · have hi6 : 0 ≤ i ∧ i + 6 ≤ L := by omega
    have kk : ∀ (Vx Jx : Nat → Nat → Int) (Rx : Nat → Nat → Nat) (Vm Jm : Nat → Nat → Int) (Rm : Nat → Nat → Nat), LI Vx Jx Rx Vm Jm Rm → xW p l e room_1 s m #[Value.ref b] below meth c D (fun q => s.heap.size ≤ q) s.heap 4 162 8366 (lw_Z below #[Value.ref b] s) (XW cy ux Vx Jx Rx ++ MW cy um Vm Jm Rm) 1495 [(3, vI i), (2, .ref (um 0)), (1, .ref (ux 0)), (0, .ref b)] [] := by
      intro Vx2 Jx2 Rx2 Vm2 Jm2 Rm2 h2
      refine x_iinc C.1 (v := i + 6) (lv' := [(3, vI (i + 6)), (2, .ref (um 0)), (1, .ref (ux 0)), (0, .ref b)]) rfl dL_law_1495 0 rfl (by decide) rfl ?_
      refine x_goto C.1 (tgt := 18) dL_law_1498 (by decide) ?_
      exact ih (i + 6, Vx2, Jx2, Rx2, Vm2, Jm2, Rm2) ⟨⟨by omega, by omega⟩, h2⟩ (by dsimp only; omega)
    refine x_aload_n C.1 dL_law_27 3 rfl ?_
    refine x_iload_n C.1 dL_law_28 0 rfl ?_
    refine x_sld C (b := b) (i := i) hX hbl hbA (by omega) (by omega) dL_law_29 ?_
    refine x_bipush C.1 (n := 63) dL_law_30 ?_
    refine x_iand C.1 rfl dL_law_32 ?_
    have hsw := iAnd_le (xs i.toNat).toInt (q := 63) (by decide)
    by_cases hs0 : iAnd (xs i.toNat).toInt 63 = 0
    · refine x_tabIn C.1 0 hs0 (by decide) (tgt := 180) dL_law_33 (by decide) (by decide) rfl (by decide) ?_
      exact law_case_0 l D cy aK aV C hE hr hX hbl hbA hL ux um i hi6 Vx Jx Rx Vm Jm Rm hLI kk
    by_cases hs1 : iAnd (xs i.toNat).toInt 63 = 1
    · refine x_tabIn C.1 1 hs1 (by decide) (tgt := 233) dL_law_33 (by decide) (by decide) rfl (by decide) ?_
      exact law_case_1 l D cy aK aV C hE hr hX hbl hbA hL ux um i hi6 Vx Jx Rx Vm Jm Rm hLI kk
    by_cases hs2 : iAnd (xs i.toNat).toInt 63 = 2
    · refine x_tabIn C.1 2 hs2 (by decide) (tgt := 276) dL_law_33 (by decide) (by decide) rfl (by decide) ?_
      exact law_case_2 l D cy aK aV C hE hr hX hbl hbA hL ux um i hi6 Vx Jx Rx Vm Jm Rm hLI kk
    by_cases hs3 : iAnd (xs i.toNat).toInt 63 = 3
    · refine x_tabIn C.1 3 hs3 (by decide) (tgt := 325) dL_law_33 (by decide) (by decide) rfl (by decide) ?_
      exact law_case_3 l D cy aK aV C hE hr hX hbl hbA hL ux um i hi6 Vx Jx Rx Vm Jm Rm hLI kk
    by_cases hs4 : iAnd (xs i.toNat).toInt 63 = 4
    · refine x_tabIn C.1 4 hs4 (by decide) (tgt := 358) dL_law_33 (by decide) (by decide) rfl (by decide) ?_
      exact law_case_4 l D cy aK aV C hE hr hX hbl hbA hL ux um i hi6 Vx Jx Rx Vm Jm Rm hLI kk
    by_cases hs5 : iAnd (xs i.toNat).toInt 63 = 5
    · refine x_tabIn C.1 5 hs5 (by decide) (tgt := 421) dL_law_33 (by decide) (by decide) rfl (by decide) ?_
      exact law_case_5 l D cy aK aV C hE hr hX hbl hbA hL ux um i hi6 Vx Jx Rx Vm Jm Rm hLI kk
    by_cases hs6 : iAnd (xs i.toNat).toInt 63 = 6
    · refine x_tabIn C.1 6 hs6 (by decide) (tgt := 444) dL_law_33 (by decide) (by decide) rfl (by decide) ?_
      exact law_case_6 l D cy aK aV C hE hr hX hbl hbA hL ux um i hi6 Vx Jx Rx Vm Jm Rm hLI kk
    by_cases hs7 : iAnd (xs i.toNat).toInt 63 = 7
    · refine x_tabIn C.1 7 hs7 (by decide) (tgt := 477) dL_law_33 (by decide) (by decide) rfl (by decide) ?_
      exact law_case_7 l D cy aK aV C hE hr hX hbl hbA hL ux um i hi6 Vx Jx Rx Vm Jm Rm hLI kk
    by_cases hs8 : iAnd (xs i.toNat).toInt 63 = 8
    · refine x_tabIn C.1 8 hs8 (by decide) (tgt := 500) dL_law_33 (by decide) (by decide) rfl (by decide) ?_
      exact law_case_8 l D cy aK aV C hE hr hX hbl hbA hL ux um i hi6 Vx Jx Rx Vm Jm Rm hLI kk
    by_cases hs9 : iAnd (xs i.toNat).toInt 63 = 9
    · refine x_tabIn C.1 9 hs9 (by decide) (tgt := 533) dL_law_33 (by decide) (by decide) rfl (by decide) ?_
      exact law_case_9 l D cy aK aV C hE hr hX hbl hbA hL ux um i hi6 Vx Jx Rx Vm Jm Rm hLI kk
    by_cases hs10 : iAnd (xs i.toNat).toInt 63 = 10
    · refine x_tabIn C.1 10 hs10 (by decide) (tgt := 566) dL_law_33 (by decide) (by decide) rfl (by decide) ?_
      exact law_case_10 l D cy aK aV C hE hr hX hbl hbA hL ux um i hi6 Vx Jx Rx Vm Jm Rm hLI kk
    by_cases hs11 : iAnd (xs i.toNat).toInt 63 = 11
    · refine x_tabIn C.1 11 hs11 (by decide) (tgt := 599) dL_law_33 (by decide) (by decide) rfl (by decide) ?_
      exact law_case_11 l D cy aK aV C hE hr hX hbl hbA hL ux um i hi6 Vx Jx Rx Vm Jm Rm hLI kk
    by_cases hs12 : iAnd (xs i.toNat).toInt 63 = 12
    · refine x_tabIn C.1 12 hs12 (by decide) (tgt := 652) dL_law_33 (by decide) (by decide) rfl (by decide) ?_
      exact law_case_12 l D cy aK aV C hE hr hX hbl hbA hL ux um i hi6 Vx Jx Rx Vm Jm Rm hLI kk
    by_cases hs13 : iAnd (xs i.toNat).toInt 63 = 13
    · refine x_tabIn C.1 13 hs13 (by decide) (tgt := 705) dL_law_33 (by decide) (by decide) rfl (by decide) ?_
      exact law_case_13 l D cy aK aV C hE hr hX hbl hbA hL ux um i hi6 Vx Jx Rx Vm Jm Rm hLI kk
    by_cases hs14 : iAnd (xs i.toNat).toInt 63 = 14
    · refine x_tabIn C.1 14 hs14 (by decide) (tgt := 758) dL_law_33 (by decide) (by decide) rfl (by decide) ?_
      exact law_case_14 l D cy aK aV C hE hr hX hbl hbA hL ux um i hi6 Vx Jx Rx Vm Jm Rm hLI kk
    by_cases hs15 : iAnd (xs i.toNat).toInt 63 = 15
    · refine x_tabIn C.1 15 hs15 (by decide) (tgt := 811) dL_law_33 (by decide) (by decide) rfl (by decide) ?_
      exact law_case_15 l D cy aK aV C hE hr hX hbl hbA hL ux um i hi6 Vx Jx Rx Vm Jm Rm hLI kk
    by_cases hs16 : iAnd (xs i.toNat).toInt 63 = 16
    · refine x_tabIn C.1 16 hs16 (by decide) (tgt := 864) dL_law_33 (by decide) (by decide) rfl (by decide) ?_
      exact law_case_16 l D cy aK aV C hE hr hX hbl hbA hL ux um i hi6 Vx Jx Rx Vm Jm Rm hLI kk
    by_cases hs17 : iAnd (xs i.toNat).toInt 63 = 17
    · refine x_tabIn C.1 17 hs17 (by decide) (tgt := 927) dL_law_33 (by decide) (by decide) rfl (by decide) ?_
      exact law_case_17 l D cy aK aV C hE hr hX hbl hbA hL ux um i hi6 Vx Jx Rx Vm Jm Rm hLI kk
    by_cases hs18 : iAnd (xs i.toNat).toInt 63 = 18
    · refine x_tabIn C.1 18 hs18 (by decide) (tgt := 960) dL_law_33 (by decide) (by decide) rfl (by decide) ?_
      exact law_case_18 l D cy aK aV C hE hr hX hbl hbA hL ux um i hi6 Vx Jx Rx Vm Jm Rm hLI kk
    by_cases hs19 : iAnd (xs i.toNat).toInt 63 = 19
    · refine x_tabIn C.1 19 hs19 (by decide) (tgt := 993) dL_law_33 (by decide) (by decide) rfl (by decide) ?_
      exact law_case_19 l D cy aK aV C hE hr hX hbl hbA hL ux um i hi6 Vx Jx Rx Vm Jm Rm hLI kk
    by_cases hs20 : iAnd (xs i.toNat).toInt 63 = 20
    · refine x_tabIn C.1 20 hs20 (by decide) (tgt := 1036) dL_law_33 (by decide) (by decide) rfl (by decide) ?_
      exact law_case_20 l D cy aK aV C hE hr hX hbl hbA hL ux um i hi6 Vx Jx Rx Vm Jm Rm hLI kk
    by_cases hs21 : iAnd (xs i.toNat).toInt 63 = 21
    · refine x_tabIn C.1 21 hs21 (by decide) (tgt := 1089) dL_law_33 (by decide) (by decide) rfl (by decide) ?_
      exact law_case_21 l D cy aK aV C hE hr hX hbl hbA hL ux um i hi6 Vx Jx Rx Vm Jm Rm hLI kk
    by_cases hs22 : iAnd (xs i.toNat).toInt 63 = 22
    · refine x_tabIn C.1 22 hs22 (by decide) (tgt := 1122) dL_law_33 (by decide) (by decide) rfl (by decide) ?_
      exact law_case_22 l D cy aK aV C hE hr hX hbl hbA hL ux um i hi6 Vx Jx Rx Vm Jm Rm hLI kk
    by_cases hs23 : iAnd (xs i.toNat).toInt 63 = 23
    · refine x_tabIn C.1 23 hs23 (by decide) (tgt := 1165) dL_law_33 (by decide) (by decide) rfl (by decide) ?_
      exact law_case_23 l D cy aK aV C hE hr hX hbl hbA hL ux um i hi6 Vx Jx Rx Vm Jm Rm hLI kk
    by_cases hs24 : iAnd (xs i.toNat).toInt 63 = 24
    · refine x_tabIn C.1 24 hs24 (by decide) (tgt := 1198) dL_law_33 (by decide) (by decide) rfl (by decide) ?_
      exact law_case_24 l D cy aK aV C hE hr hX hbl hbA hL ux um i hi6 Vx Jx Rx Vm Jm Rm hLI kk
    by_cases hs25 : iAnd (xs i.toNat).toInt 63 = 25
    · refine x_tabIn C.1 25 hs25 (by decide) (tgt := 1241) dL_law_33 (by decide) (by decide) rfl (by decide) ?_
      exact law_case_25 l D cy aK aV C hE hr hX hbl hbA hL ux um i hi6 Vx Jx Rx Vm Jm Rm hLI kk
    by_cases hs26 : iAnd (xs i.toNat).toInt 63 = 26
    · refine x_tabIn C.1 26 hs26 (by decide) (tgt := 1274) dL_law_33 (by decide) (by decide) rfl (by decide) ?_
      exact law_case_26 l D cy aK aV C hE hr hX hbl hbA hL ux um i hi6 Vx Jx Rx Vm Jm Rm hLI kk
    by_cases hs27 : iAnd (xs i.toNat).toInt 63 = 27
    · refine x_tabIn C.1 27 hs27 (by decide) (tgt := 1337) dL_law_33 (by decide) (by decide) rfl (by decide) ?_
      exact law_case_27 l D cy aK aV C hE hr hX hbl hbA hL ux um i hi6 Vx Jx Rx Vm Jm Rm hLI kk
    by_cases hs28 : iAnd (xs i.toNat).toInt 63 = 28
    · refine x_tabIn C.1 28 hs28 (by decide) (tgt := 1390) dL_law_33 (by decide) (by decide) rfl (by decide) ?_
      exact law_case_28 l D cy aK aV C hE hr hX hbl hbA hL ux um i hi6 Vx Jx Rx Vm Jm Rm hLI kk
    by_cases hs29 : iAnd (xs i.toNat).toInt 63 = 29
    · refine x_tabIn C.1 29 hs29 (by decide) (tgt := 1413) dL_law_33 (by decide) (by decide) rfl (by decide) ?_
      exact law_case_29 l D cy aK aV C hE hr hX hbl hbA hL ux um i hi6 Vx Jx Rx Vm Jm Rm hLI kk
    by_cases hs30 : iAnd (xs i.toNat).toInt 63 = 30
    · refine x_tabIn C.1 30 hs30 (by decide) (tgt := 1426) dL_law_33 (by decide) (by decide) rfl (by decide) ?_
      exact law_case_30 l D cy aK aV C hE hr hX hbl hbA hL ux um i hi6 Vx Jx Rx Vm Jm Rm hLI kk
    by_cases hs31 : iAnd (xs i.toNat).toInt 63 = 31
    · refine x_tabIn C.1 31 hs31 (by decide) (tgt := 1439) dL_law_33 (by decide) (by decide) rfl (by decide) ?_
      exact law_case_31 l D cy aK aV C hE hr hX hbl hbA hL ux um i hi6 Vx Jx Rx Vm Jm Rm hLI kk
    by_cases hs32 : iAnd (xs i.toNat).toInt 63 = 32
    · refine x_tabIn C.1 32 hs32 (by decide) (tgt := 1472) dL_law_33 (by decide) (by decide) rfl (by decide) ?_
      exact law_case_32 l D cy aK aV C hE hr hX hbl hbA hL ux um i hi6 Vx Jx Rx Vm Jm Rm hLI kk
    refine x_tabOut C.1 (tgt := 1495) (xi_r _) dL_law_33 (Or.inr (by omega)) (by decide) ?_
    exact kk Vx Jx Rx Vm Jm Rm hLI
