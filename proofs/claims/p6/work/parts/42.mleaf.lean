theorem dX12_in_0 : decode cX12_in 0 = .ok (.iload_n 0, 1) := by decide +kernel
theorem dX12_in_1 : decode cX12_in 1 = .ok (.iload_n 1, 1) := by decide +kernel
theorem dX12_in_2 : decode cX12_in 2 = .ok (.if_icmp .lt 12, 3) := by decide +kernel
theorem dX12_in_5 : decode cX12_in 5 = .ok (.iload_n 0, 1) := by decide +kernel
theorem dX12_in_6 : decode cX12_in 6 = .ok (.iload_n 2, 1) := by decide +kernel
theorem dX12_in_7 : decode cX12_in 7 = .ok (.if_icmp .gt 7, 3) := by decide +kernel
theorem dX12_in_10 : decode cX12_in 10 = .ok (.iconst 1, 1) := by decide +kernel
theorem dX12_in_11 : decode cX12_in 11 = .ok (.goto 4, 3) := by decide +kernel
theorem dX12_in_14 : decode cX12_in 14 = .ok (.iconst 0, 1) := by decide +kernel
theorem dX12_in_15 : decode cX12_in 15 = .ok (.ireturn, 1) := by decide +kernel
set_option maxRecDepth 100000 in
def f_m_in (x0 : Int) (x1 : Int) (x2 : Int) : (Int) → Prop :=
  (if x0 < x1 then rtn 0 else (if x2 < x0 then rtn 0 else rtn 1))
set_option maxHeartbeats 8000000 in
set_option maxRecDepth 100000 in
theorem m_in (l : Launch) (D : va_G) (cy : Nat → ClassId) (x0 : Int) (bx0 : -2147483648 ≤ x0 ∧ x0 ≤ 2147483647) (x1 : Int) (bx1 : -2147483648 ≤ x1 ∧ x1 ≤ 2147483647) (x2 : Int) (bx2 : -2147483648 ≤ x2 ∧ x2 ≤ 2147483647) : xMi l D (xTY cy) yX12_in cX12_in 3 (some .boolean) 0 0 0 0 [vI x0, vI x1, vI x2] [] (fun _ : Unit => []) (fun a (u : Unit) => (0 ≤ a ∧ a ≤ 1) ∧ (Sq a (x1 ≤ x0 ∧ x0 ≤ x2)) ∧ (f_m_in x0 x1 x2) a) := by
  refine xMi.mk (lv0 := [(0, vI x0), (1, vI x1), (2, vI x2)]) (by decide) rfl (Nat.le_of_ble_eq_true rfl) (fun p e s m below meth c A C hr hnm hAe => ?_)
  have C : xC2 p s m _ meth c D A s.heap 3 cX12_in RX12 (xTY cy) := C
  have hF := Imp.of_eq (f_m_in.eq_def x0 x1 x2)
  refine x_iload_n C.1 dX12_in_0 0 rfl ?_
  refine x_iload_n C.1 dX12_in_1 1 rfl ?_
  refine x_icmp_lt C.1 (tgt := 14) dX12_in_2 (by decide) (by omega) (by omega) (fun hc1 => ?_) (fun hc1 => ?_)
  · replace hF := hF.to (if_pos hc1)
    refine x_iconst C.1 (n := 0) dX12_in_14 ?_
    exact x_zret (S := Unit) (post := (fun a (u : Unit) => (0 ≤ a ∧ a ≤ 1) ∧ (Sq a (x1 ≤ x0 ∧ x0 ≤ x2)) ∧ (f_m_in x0 x1 x2) a)) (w1 := (fun _ : Unit => [])) (a := 0) C hr rfl dX12_in_15 (by decide) () rfl ⟨⟨by decide, by decide⟩, (Or.inr ⟨rfl, by omega⟩), hF _ rfl⟩
  · replace hF := hF.to (if_neg hc1)
    refine x_iload_n C.1 dX12_in_5 0 rfl ?_
    refine x_iload_n C.1 dX12_in_6 2 rfl ?_
    refine x_icmp_gt C.1 (tgt := 14) dX12_in_7 (by decide) (by omega) (by omega) (fun hc2 => ?_) (fun hc2 => ?_)
    · replace hF := hF.to (if_pos hc2)
      refine x_iconst C.1 (n := 0) dX12_in_14 ?_
      exact x_zret (S := Unit) (post := (fun a (u : Unit) => (0 ≤ a ∧ a ≤ 1) ∧ (Sq a (x1 ≤ x0 ∧ x0 ≤ x2)) ∧ (f_m_in x0 x1 x2) a)) (w1 := (fun _ : Unit => [])) (a := 0) C hr rfl dX12_in_15 (by decide) () rfl ⟨⟨by decide, by decide⟩, (Or.inr ⟨rfl, by omega⟩), hF _ rfl⟩
    · replace hF := hF.to (if_neg hc2)
      refine x_iconst C.1 (n := 1) dX12_in_10 ?_
      refine x_goto C.1 (tgt := 15) dX12_in_11 (by decide) ?_
      exact x_zret (S := Unit) (post := (fun a (u : Unit) => (0 ≤ a ∧ a ≤ 1) ∧ (Sq a (x1 ≤ x0 ∧ x0 ≤ x2)) ∧ (f_m_in x0 x1 x2) a)) (w1 := (fun _ : Unit => [])) (a := 1) C hr rfl dX12_in_15 (by decide) () rfl ⟨⟨by decide, by decide⟩, (Or.inl ⟨rfl, by omega⟩), hF _ rfl⟩
theorem dX12_min_0 : decode cX12_min 0 = .ok (.iload_n 0, 1) := by decide +kernel
theorem dX12_min_1 : decode cX12_min 1 = .ok (.iload_n 1, 1) := by decide +kernel
theorem dX12_min_2 : decode cX12_min 2 = .ok (.if_icmp .ge 7, 3) := by decide +kernel
theorem dX12_min_5 : decode cX12_min 5 = .ok (.iload_n 0, 1) := by decide +kernel
theorem dX12_min_6 : decode cX12_min 6 = .ok (.goto 4, 3) := by decide +kernel
theorem dX12_min_9 : decode cX12_min 9 = .ok (.iload_n 1, 1) := by decide +kernel
theorem dX12_min_10 : decode cX12_min 10 = .ok (.ireturn, 1) := by decide +kernel
set_option maxRecDepth 100000 in
def f_m_min (x0 : Int) (x1 : Int) : (Int) → Prop :=
  (if x1 ≤ x0 then rtn x1 else rtn x0)
set_option maxHeartbeats 8000000 in
set_option maxRecDepth 100000 in
theorem m_min (l : Launch) (D : va_G) (cy : Nat → ClassId) (x0 : Int) (bx0 : -2147483648 ≤ x0 ∧ x0 ≤ 2147483647) (x1 : Int) (bx1 : -2147483648 ≤ x1 ∧ x1 ≤ 2147483647) : xMi l D (xTY cy) yX12_min cX12_min 2 (some .int) 0 0 0 0 [vI x0, vI x1] [] (fun _ : Unit => []) (fun a (u : Unit) => ((a = x0 ∧ x0 ≤ x1) ∨ (a = x1 ∧ x1 ≤ x0)) ∧ (f_m_min x0 x1) a) := by
  refine xMi.mk (lv0 := [(0, vI x0), (1, vI x1)]) (by decide) rfl (Nat.le_of_ble_eq_true rfl) (fun p e s m below meth c A C hr hnm hAe => ?_)
  have C : xC2 p s m _ meth c D A s.heap 2 cX12_min RX12 (xTY cy) := C
  have hF := Imp.of_eq (f_m_min.eq_def x0 x1)
  refine x_iload_n C.1 dX12_min_0 0 rfl ?_
  refine x_iload_n C.1 dX12_min_1 1 rfl ?_
  refine x_icmp_ge C.1 (tgt := 9) dX12_min_2 (by decide) (by omega) (by omega) (fun hc1 => ?_) (fun hc1 => ?_)
  · replace hF := hF.to (if_pos hc1)
    refine x_iload_n C.1 dX12_min_9 1 rfl ?_
    exact x_iret (S := Unit) (post := (fun a (u : Unit) => ((a = x0 ∧ x0 ≤ x1) ∨ (a = x1 ∧ x1 ≤ x0)) ∧ (f_m_min x0 x1) a)) (w1 := (fun _ : Unit => [])) (a := x1) C hr rfl dX12_min_10 (by omega) () rfl ⟨(by omega), hF _ rfl⟩
  · replace hF := hF.to (if_neg hc1)
    refine x_iload_n C.1 dX12_min_5 0 rfl ?_
    refine x_goto C.1 (tgt := 10) dX12_min_6 (by decide) ?_
    exact x_iret (S := Unit) (post := (fun a (u : Unit) => ((a = x0 ∧ x0 ≤ x1) ∨ (a = x1 ∧ x1 ≤ x0)) ∧ (f_m_min x0 x1) a)) (w1 := (fun _ : Unit => [])) (a := x0) C hr rfl dX12_min_10 (by omega) () rfl ⟨(by omega), hF _ rfl⟩
theorem dX12_max_0 : decode cX12_max 0 = .ok (.iload_n 0, 1) := by decide +kernel
theorem dX12_max_1 : decode cX12_max 1 = .ok (.iload_n 1, 1) := by decide +kernel
theorem dX12_max_2 : decode cX12_max 2 = .ok (.if_icmp .le 7, 3) := by decide +kernel
theorem dX12_max_5 : decode cX12_max 5 = .ok (.iload_n 0, 1) := by decide +kernel
theorem dX12_max_6 : decode cX12_max 6 = .ok (.goto 4, 3) := by decide +kernel
theorem dX12_max_9 : decode cX12_max 9 = .ok (.iload_n 1, 1) := by decide +kernel
theorem dX12_max_10 : decode cX12_max 10 = .ok (.ireturn, 1) := by decide +kernel
set_option maxRecDepth 100000 in
def f_m_max (x0 : Int) (x1 : Int) : (Int) → Prop :=
  (if x0 ≤ x1 then rtn x1 else rtn x0)
set_option maxHeartbeats 8000000 in
set_option maxRecDepth 100000 in
theorem m_max (l : Launch) (D : va_G) (cy : Nat → ClassId) (x0 : Int) (bx0 : -2147483648 ≤ x0 ∧ x0 ≤ 2147483647) (x1 : Int) (bx1 : -2147483648 ≤ x1 ∧ x1 ≤ 2147483647) : xMi l D (xTY cy) yX12_max cX12_max 2 (some .int) 0 0 0 0 [vI x0, vI x1] [] (fun _ : Unit => []) (fun a (u : Unit) => ((a = x0 ∧ x1 ≤ x0) ∨ (a = x1 ∧ x0 ≤ x1)) ∧ (f_m_max x0 x1) a) := by
  refine xMi.mk (lv0 := [(0, vI x0), (1, vI x1)]) (by decide) rfl (Nat.le_of_ble_eq_true rfl) (fun p e s m below meth c A C hr hnm hAe => ?_)
  have C : xC2 p s m _ meth c D A s.heap 2 cX12_max RX12 (xTY cy) := C
  have hF := Imp.of_eq (f_m_max.eq_def x0 x1)
  refine x_iload_n C.1 dX12_max_0 0 rfl ?_
  refine x_iload_n C.1 dX12_max_1 1 rfl ?_
  refine x_icmp_le C.1 (tgt := 9) dX12_max_2 (by decide) (by omega) (by omega) (fun hc1 => ?_) (fun hc1 => ?_)
  · replace hF := hF.to (if_pos hc1)
    refine x_iload_n C.1 dX12_max_9 1 rfl ?_
    exact x_iret (S := Unit) (post := (fun a (u : Unit) => ((a = x0 ∧ x1 ≤ x0) ∨ (a = x1 ∧ x0 ≤ x1)) ∧ (f_m_max x0 x1) a)) (w1 := (fun _ : Unit => [])) (a := x1) C hr rfl dX12_max_10 (by omega) () rfl ⟨(by omega), hF _ rfl⟩
  · replace hF := hF.to (if_neg hc1)
    refine x_iload_n C.1 dX12_max_5 0 rfl ?_
    refine x_goto C.1 (tgt := 10) dX12_max_6 (by decide) ?_
    exact x_iret (S := Unit) (post := (fun a (u : Unit) => ((a = x0 ∧ x1 ≤ x0) ∨ (a = x1 ∧ x0 ≤ x1)) ∧ (f_m_max x0 x1) a)) (w1 := (fun _ : Unit => [])) (a := x0) C hr rfl dX12_max_10 (by omega) () rfl ⟨(by omega), hF _ rfl⟩
theorem dX12_has_0 : decode cX12_has 0 = .ok (.iload_n 0, 1) := by decide +kernel
theorem dX12_has_1 : decode cX12_has 1 = .ok (.iload_n 1, 1) := by decide +kernel
theorem dX12_has_2 : decode cX12_has 2 = .ok (.ishr, 1) := by decide +kernel
theorem dX12_has_3 : decode cX12_has 3 = .ok (.iconst 1, 1) := by decide +kernel
theorem dX12_has_4 : decode cX12_has 4 = .ok (.iand, 1) := by decide +kernel
theorem dX12_has_5 : decode cX12_has 5 = .ok (.iconst 1, 1) := by decide +kernel
theorem dX12_has_6 : decode cX12_has 6 = .ok (.if_icmp .ne 7, 3) := by decide +kernel
theorem dX12_has_9 : decode cX12_has 9 = .ok (.iconst 1, 1) := by decide +kernel
theorem dX12_has_10 : decode cX12_has 10 = .ok (.goto 4, 3) := by decide +kernel
theorem dX12_has_13 : decode cX12_has 13 = .ok (.iconst 0, 1) := by decide +kernel
theorem dX12_has_14 : decode cX12_has 14 = .ok (.ireturn, 1) := by decide +kernel
set_option maxRecDepth 100000 in
def f_m_has (x0 : Int) (x1 : Int) : (Int) → Prop :=
  rdb (iShr x0 x1) fun z1 => rdb (iAnd z1 1) fun z2 => fct (0 ≤ z2 ∧ z2 ≤ 1) <| (if ¬ z2 = 1 then rtn 0 else rtn 1)
set_option maxHeartbeats 8000000 in
set_option maxRecDepth 100000 in
theorem m_has (l : Launch) (D : va_G) (cy : Nat → ClassId) (x0 : Int) (bx0 : -2147483648 ≤ x0 ∧ x0 ≤ 2147483647) (x1 : Int) (bx1 : -2147483648 ≤ x1 ∧ x1 ≤ 2147483647) : xMi l D (xTY cy) yX12_has cX12_has 2 (some .boolean) 0 0 0 0 [vI x0, vI x1] [] (fun _ : Unit => []) (fun a (u : Unit) => (0 ≤ a ∧ a ≤ 1) ∧ Sq a (iAnd (iShr x0 x1) 1 = 1) ∧ (f_m_has x0 x1) a) := by
  refine xMi.mk (lv0 := [(0, vI x0), (1, vI x1)]) (by decide) rfl (Nat.le_of_ble_eq_true rfl) (fun p e s m below meth c A C hr hnm hAe => ?_)
  have C : xC2 p s m _ meth c D A s.heap 2 cX12_has RX12 (xTY cy) := C
  have hF := Imp.of_eq (f_m_has.eq_def x0 x1)
  refine x_iload_n C.1 dX12_has_0 0 rfl ?_
  refine x_iload_n C.1 dX12_has_1 1 rfl ?_
  obtain ⟨z1, hz1, bz1⟩ : ∃ z : Int, iShr x0 x1 = z ∧ (-2147483648 ≤ z ∧ z ≤ 2147483647) := ⟨_, rfl, xi_r _⟩
  replace hF := hF.to (rdb_e (z := z1) hz1)
  refine x_ishr C.1 (v := z1) hz1 dX12_has_2 ?_
  refine x_iconst C.1 (n := 1) dX12_has_3 ?_
  obtain ⟨z2, hz2, bz2⟩ : ∃ z : Int, iAnd z1 1 = z ∧ (0 ≤ z ∧ z ≤ 1) := ⟨_, rfl, iAnd_leB _ (by decide)⟩
  replace hF := hF.to (rdb_e (z := z2) hz2)
  replace hF := hF.fc bz2
  refine x_iand C.1 (v := z2) hz2 dX12_has_4 ?_
  refine x_iconst C.1 (n := 1) dX12_has_5 ?_
  refine x_icmp_ne C.1 (tgt := 13) dX12_has_6 (by decide) (by omega) (by decide) (fun hc3 => ?_) (fun hc3 => ?_)
  · replace hF := hF.to (if_pos hc3)
    refine x_iconst C.1 (n := 0) dX12_has_13 ?_
    exact x_zret (S := Unit) (post := (fun a (u : Unit) => (0 ≤ a ∧ a ≤ 1) ∧ Sq a (iAnd (iShr x0 x1) 1 = 1) ∧ (f_m_has x0 x1) a)) (w1 := (fun _ : Unit => [])) (a := 0) C hr rfl dX12_has_14 (by decide) () rfl ⟨⟨by decide, by decide⟩, (by subst_vars; exact Or.inr ⟨rfl, by omega⟩), hF _ rfl⟩
  · replace hF := hF.to (if_neg (fun hh => hh hc3))
    refine x_iconst C.1 (n := 1) dX12_has_9 ?_
    refine x_goto C.1 (tgt := 14) dX12_has_10 (by decide) ?_
    exact x_zret (S := Unit) (post := (fun a (u : Unit) => (0 ≤ a ∧ a ≤ 1) ∧ Sq a (iAnd (iShr x0 x1) 1 = 1) ∧ (f_m_has x0 x1) a)) (w1 := (fun _ : Unit => [])) (a := 1) C hr rfl dX12_has_14 (by decide) () rfl ⟨⟨by decide, by decide⟩, (by subst_vars; exact Or.inl ⟨rfl, by omega⟩), hF _ rfl⟩
theorem dX12_bits_0 : decode cX12_bits 0 = .ok (.iconst 0, 1) := by decide +kernel
theorem dX12_bits_1 : decode cX12_bits 1 = .ok (.istore_n 1, 1) := by decide +kernel
theorem dX12_bits_2 : decode cX12_bits 2 = .ok (.iconst 0, 1) := by decide +kernel
theorem dX12_bits_3 : decode cX12_bits 3 = .ok (.istore_n 2, 1) := by decide +kernel
theorem dX12_bits_4 : decode cX12_bits 4 = .ok (.iload_n 2, 1) := by decide +kernel
theorem dX12_bits_5 : decode cX12_bits 5 = .ok (.bipush 8, 2) := by decide +kernel
theorem dX12_bits_7 : decode cX12_bits 7 = .ok (.if_icmp .ge 17, 3) := by decide +kernel
theorem dX12_bits_10 : decode cX12_bits 10 = .ok (.iload_n 1, 1) := by decide +kernel
theorem dX12_bits_11 : decode cX12_bits 11 = .ok (.iload_n 0, 1) := by decide +kernel
theorem dX12_bits_12 : decode cX12_bits 12 = .ok (.iload_n 2, 1) := by decide +kernel
theorem dX12_bits_13 : decode cX12_bits 13 = .ok (.ishr, 1) := by decide +kernel
theorem dX12_bits_14 : decode cX12_bits 14 = .ok (.iconst 1, 1) := by decide +kernel
theorem dX12_bits_15 : decode cX12_bits 15 = .ok (.iand, 1) := by decide +kernel
theorem dX12_bits_16 : decode cX12_bits 16 = .ok (.iadd, 1) := by decide +kernel
theorem dX12_bits_17 : decode cX12_bits 17 = .ok (.istore_n 1, 1) := by decide +kernel
theorem dX12_bits_18 : decode cX12_bits 18 = .ok (.iinc 2 1, 3) := by decide +kernel
theorem dX12_bits_21 : decode cX12_bits 21 = .ok (.goto (-17), 3) := by decide +kernel
theorem dX12_bits_24 : decode cX12_bits 24 = .ok (.iload_n 1, 1) := by decide +kernel
theorem dX12_bits_25 : decode cX12_bits 25 = .ok (.ireturn, 1) := by decide +kernel
set_option maxRecDepth 100000 in
def f_m_bits (x0 : Int) : (Int) → Prop :=
  lop2 (10) (fun rc35 (z33 : Int) (z34 : Int) => (if 8 ≤ z33 then rtn z34 else rdb (iShr x0 z33) fun z41 => rdb (iAnd z41 1) fun z42 => fct (0 ≤ z42 ∧ z42 ≤ 1) <| rdb (wr (z34 + z42)) fun z43 => rc35 (z33 + 1) z43)) 0 0
set_option maxHeartbeats 8000000 in
set_option maxRecDepth 100000 in
theorem m_bits (l : Launch) (D : va_G) (cy : Nat → ClassId) (x0 : Int) (bx0 : -2147483648 ≤ x0 ∧ x0 ≤ 2147483647) : xMi l D (xTY cy) yX12_bits cX12_bits 3 (some .int) 0 0 0 0 [vI x0] [] (fun _ : Unit => []) (fun a (u : Unit) => (f_m_bits x0) a) := by
  refine xMi.mk (lv0 := [(0, vI x0)]) (by decide) rfl (Nat.le_of_ble_eq_true rfl) (fun p e s m below meth c A C hr hnm hAe => ?_)
  have C : xC2 p s m _ meth c D A s.heap 3 cX12_bits RX12 (xTY cy) := C
  have hF := Imp.of_eq (f_m_bits.eq_def x0)
  refine x_iconst C.1 (n := 0) dX12_bits_0 ?_
  refine x_istore_n C.1 (lv' := [(1, vI 0), (0, vI x0)]) dX12_bits_1 (by decide) rfl ?_
  refine x_iconst C.1 (n := 0) dX12_bits_2 ?_
  refine x_istore_n C.1 (lv' := [(2, vI 0), (1, vI 0), (0, vI x0)]) dX12_bits_3 (by decide) rfl ?_
  obtain ⟨bd35, hbd35, hF⟩ := lop2_ex hF
  refine x_loop (I := fun x : Int × Int => match x with | (z33, z34) => (0 ≤ z33 ∧ z33 ≤ 8) ∧ (-2147483648 ≤ z34 ∧ z34 ≤ 2147483647) ∧ (∃ nf : Nat, (9 - z33).toNat < nf ∧ Imp (lop2 nf bd35 z33 z34) (f_m_bits x0))) (μ := fun x : Int × Int => match x with | (z33, z34) => (9 - z33).toNat) (wsf := fun x : Int × Int => match x with | (z33, z34) => []) (lvf := fun x : Int × Int => match x with | (z33, z34) => [(2, vI z33), (1, vI z34), (0, vI x0)]) (fun x hI35x ih35 => ?_) (0, 0) ⟨⟨by decide, by decide⟩, ⟨by decide, by decide⟩, ⟨_, (by omega), hF⟩⟩ rfl rfl
  obtain ⟨z33, z34⟩ := x
  obtain ⟨bz33, bz34, nf35, hn35, hF⟩ := hI35x
  try dsimp only
  obtain ⟨nf35, rfl⟩ : ∃ mm, nf35 = mm + 1 := ⟨nf35 - 1, (Nat.succ_pred_eq_of_pos (Nat.lt_of_le_of_lt (Nat.zero_le _) hn35)).symm⟩
  replace hF := hF.to (lop2_s hbd35)
  refine x_iload_n C.1 dX12_bits_4 0 rfl ?_
  refine x_bipush C.1 (n := 8) dX12_bits_5 ?_
  refine x_icmp_ge C.1 (tgt := 24) dX12_bits_7 (by decide) (by omega) (by decide) (fun hc40 => ?_) (fun hc40 => ?_)
  · replace hF := hF.to (if_pos hc40)
    refine x_iload_n C.1 dX12_bits_24 1 rfl ?_
    exact x_iret (S := Unit) (post := (fun a (u : Unit) => (f_m_bits x0) a)) (w1 := (fun _ : Unit => [])) (a := z34) C hr rfl dX12_bits_25 (by omega) () rfl (hF _ rfl)
  · replace hF := hF.to (if_neg hc40)
    refine x_iload_n C.1 dX12_bits_10 1 rfl ?_
    refine x_iload_n C.1 dX12_bits_11 2 rfl ?_
    refine x_iload_n C.1 dX12_bits_12 0 rfl ?_
    obtain ⟨z41, hz41, bz41⟩ : ∃ z : Int, iShr x0 z33 = z ∧ (-2147483648 ≤ z ∧ z ≤ 2147483647) := ⟨_, rfl, xi_r _⟩
    replace hF := hF.to (rdb_e (z := z41) hz41)
    refine x_ishr C.1 (v := z41) hz41 dX12_bits_13 ?_
    refine x_iconst C.1 (n := 1) dX12_bits_14 ?_
    obtain ⟨z42, hz42, bz42⟩ : ∃ z : Int, iAnd z41 1 = z ∧ (0 ≤ z ∧ z ≤ 1) := ⟨_, rfl, iAnd_leB _ (by decide)⟩
    replace hF := hF.to (rdb_e (z := z42) hz42)
    replace hF := hF.fc bz42
    refine x_iand C.1 (v := z42) hz42 dX12_bits_15 ?_
    refine x_iadd C.1 (v := z34 + z42) (by omega) dX12_bits_16 ?_
    refine x_wrapg ?_
    intro z43 bz43 ew43
    replace hF := hF.to (rdb_e (z := z43) ew43.symm)
    refine x_istore_n C.1 (lv' := [(1, vI z43), (2, vI z33), (0, vI x0)]) dX12_bits_17 (by decide) rfl ?_
    refine x_iinc C.1 (v := z33 + 1) (lv' := [(2, vI (z33 + 1)), (1, vI z43), (0, vI x0)]) (by omega) dX12_bits_18 1 rfl (by decide) rfl ?_
    refine x_goto C.1 (tgt := 4) dX12_bits_21 (by decide) ?_
    have hmu35 : (9 - (z33 + 1)).toNat < (9 - z33).toNat := (by omega)
    exact ih35 (z33 + 1, z43) ⟨⟨by omega, by omega⟩, ⟨by omega, by omega⟩, ⟨nf35, Nat.lt_of_lt_of_le hmu35 (Nat.le_of_lt_succ hn35), hF⟩⟩ hmu35
theorem dX12_tens_0 : decode cX12_tens 0 = .ok (.lconst 1, 1) := by decide +kernel
theorem dX12_tens_1 : decode cX12_tens 1 = .ok (.lstore_n 1, 1) := by decide +kernel
theorem dX12_tens_2 : decode cX12_tens 2 = .ok (.iconst 0, 1) := by decide +kernel
theorem dX12_tens_3 : decode cX12_tens 3 = .ok (.istore_n 3, 1) := by decide +kernel
theorem dX12_tens_4 : decode cX12_tens 4 = .ok (.iload_n 3, 1) := by decide +kernel
theorem dX12_tens_5 : decode cX12_tens 5 = .ok (.iload_n 0, 1) := by decide +kernel
theorem dX12_tens_6 : decode cX12_tens 6 = .ok (.if_icmp .ge 15, 3) := by decide +kernel
theorem dX12_tens_9 : decode cX12_tens 9 = .ok (.lload_n 1, 1) := by decide +kernel
theorem dX12_tens_10 : decode cX12_tens 10 = .ok (.ldc2_w 112, 3) := by decide +kernel
theorem dX12_tens_13 : decode cX12_tens 13 = .ok (.lmul, 1) := by decide +kernel
theorem dX12_tens_14 : decode cX12_tens 14 = .ok (.lstore_n 1, 1) := by decide +kernel
theorem dX12_tens_15 : decode cX12_tens 15 = .ok (.iinc 3 1, 3) := by decide +kernel
theorem dX12_tens_18 : decode cX12_tens 18 = .ok (.goto (-14), 3) := by decide +kernel
theorem dX12_tens_21 : decode cX12_tens 21 = .ok (.lload_n 1, 1) := by decide +kernel
theorem dX12_tens_22 : decode cX12_tens 22 = .ok (.lreturn, 1) := by decide +kernel
set_option maxRecDepth 100000 in
def f_m_tens (x0 : Int) : (Int) → Prop :=
  lop2 (20) (fun rc19 (z17 : Int) (z18 : Int) => (if x0 ≤ z17 then rtn z18 else rc19 (z17 + 1) (10 * z18))) 0 1
set_option maxHeartbeats 8000000 in
set_option maxRecDepth 100000 in
theorem m_tens (l : Launch) (D : va_G) (cy : Nat → ClassId) (x0 : Int) (bx0 : 0 ≤ x0 ∧ x0 ≤ 18) : xMl l D (xTY cy) yX12_tens cX12_tens 4 (some .long) 0 0 0 0 [vI x0] [] (fun _ : Unit => []) (fun a (u : Unit) => (1 ≤ a ∧ a ≤ 1000000000000000000) ∧ (f_m_tens x0) a) := by
  refine xMl.mk (lv0 := [(0, vI x0)]) (by decide) rfl (Nat.le_of_ble_eq_true rfl) (fun p e s m below meth c A C hr hnm hAe => ?_)
  have C : xC2 p s m _ meth c D A s.heap 4 cX12_tens RX12 (xTY cy) := C
  have hF := Imp.of_eq (f_m_tens.eq_def x0)
  refine x_lconst1 C.1 dX12_tens_0 ?_
  refine x_lstore_n C.1 (lv' := [(1, vJ 1), (0, vI x0)]) dX12_tens_1 (by decide) rfl ?_
  refine x_iconst C.1 (n := 0) dX12_tens_2 ?_
  refine x_istore_n C.1 (lv' := [(3, vI 0), (1, vJ 1), (0, vI x0)]) dX12_tens_3 (by decide) rfl ?_
  obtain ⟨bd19, hbd19, hF⟩ := lop2_ex hF
  refine x_loop (I := fun x : Int × Int => match x with | (z17, z18) => (0 ≤ z17 ∧ z17 ≤ 18) ∧ (1 ≤ z18 ∧ z18 ≤ 1000000000000000000) ∧ z18 = tp z17 ∧ (∃ nf : Nat, (19 - z17).toNat < nf ∧ Imp (lop2 nf bd19 z17 z18) (f_m_tens x0))) (μ := fun x : Int × Int => match x with | (z17, z18) => (19 - z17).toNat) (wsf := fun x : Int × Int => match x with | (z17, z18) => []) (lvf := fun x : Int × Int => match x with | (z17, z18) => [(3, vI z17), (1, vJ z18), (0, vI x0)]) (fun x hI19x ih19 => ?_) (0, 1) ⟨⟨by decide, by decide⟩, ⟨by decide, by decide⟩, rfl, ⟨_, (by omega), hF⟩⟩ rfl rfl
  obtain ⟨z17, z18⟩ := x
  obtain ⟨bz17, bz18, htp, nf19, hn19, hF⟩ := hI19x
  try dsimp only
  obtain ⟨nf19, rfl⟩ : ∃ mm, nf19 = mm + 1 := ⟨nf19 - 1, (Nat.succ_pred_eq_of_pos (Nat.lt_of_le_of_lt (Nat.zero_le _) hn19)).symm⟩
  replace hF := hF.to (lop2_s hbd19)
  refine x_iload_n C.1 dX12_tens_4 0 rfl ?_
  refine x_iload_n C.1 dX12_tens_5 2 rfl ?_
  refine x_icmp_ge C.1 (tgt := 21) dX12_tens_6 (by decide) (by omega) (by omega) (fun hc21 => ?_) (fun hc21 => ?_)
  · replace hF := hF.to (if_pos hc21)
    refine x_lload_n C.1 dX12_tens_21 1 rfl ?_
    exact x_lret (S := Unit) (post := (fun a (u : Unit) => (1 ≤ a ∧ a ≤ 1000000000000000000) ∧ (f_m_tens x0) a)) (w1 := (fun _ : Unit => [])) (a := z18) C hr rfl dX12_tens_22 (by omega) () rfl ⟨⟨by omega, by omega⟩, hF _ rfl⟩
  · replace hF := hF.to (if_neg hc21)
    refine x_lload_n C.1 dX12_tens_9 1 rfl ?_
    refine x_ldc2 C.1 (n := 10) wq_X12_112 dX12_tens_10 ?_
    refine x_lmul C.1 (v := 10 * z18) (by omega) dX12_tens_13 ?_
    refine x_lstore_n C.1 (lv' := [(1, vJ (10 * z18)), (3, vI z17), (0, vI x0)]) dX12_tens_14 (by decide) rfl ?_
    refine x_iinc C.1 (v := z17 + 1) (lv' := [(3, vI (z17 + 1)), (1, vJ (10 * z18)), (0, vI x0)]) (by omega) dX12_tens_15 1 rfl (by decide) rfl ?_
    refine x_goto C.1 (tgt := 4) dX12_tens_18 (by decide) ?_
    have e1 := tp_s (k := z17) (by omega)
    have e2 := tp_b (k := z17 + 1) (by omega)
    have hmu19 : (19 - (z17 + 1)).toNat < (19 - z17).toNat := (by omega)
    exact ih19 (z17 + 1, 10 * z18) ⟨⟨by omega, by omega⟩, ⟨by omega, by omega⟩, (by rw [e1]; omega), ⟨nf19, Nat.lt_of_lt_of_le hmu19 (Nat.le_of_lt_succ hn19), hF⟩⟩ hmu19
