section
theorem iDiv_p {a b : Int} (ha : 0 ≤ a ∧ a ≤ 2147483647) (hb : 0 < b ∧ b ≤ 2147483647) : iDiv a b = a / b := by
  rw [iDiv_e ⟨by omega, by omega⟩ hb, Int.tdiv_eq_ediv_of_nonneg ha.1]
theorem iRem_p {a b : Int} (ha : 0 ≤ a ∧ a ≤ 2147483647) (hb : 0 < b ∧ b ≤ 2147483647) : iRem a b = a % b := by
  rw [iRem_e ⟨by omega, by omega⟩ hb, Int.tmod_eq_emod_of_nonneg ha.1]
/-- one step of a program at z, with the stack's height h: it takes no more than there is; jumps lead forward, at the same height -/
def xStp (b f t : Int) (h : Int → Int) (z cz : Int) : Prop :=
  0 ≤ cz ∧ (0 ≤ h z ∧ h z ≤ z - f) ∧ (0 ≤ h (z + 1) ∧ h (z + 1) ≤ z + 1 - f) ∧
  ((cz / 1048576 = 0 ∧ h (z + 1) = h z + 1) ∨ (cz / 1048576 = 1 ∧ cz % 1048576 ≤ 12 ∧ h (z + 1) = h z + 1) ∨ (cz / 1048576 = 10 ∧ 1 ≤ h z ∧ h (z + 1) = h z) ∨
   ((cz / 1048576 = 11 ∨ cz / 1048576 = 12) ∧ 1 ≤ h z ∧ h (z + 1) = h z - 1 ∧ z < b + cz % 1048576 ∧ b + cz % 1048576 ≤ t ∧ h (b + cz % 1048576) = h z) ∨
   (2 ≤ cz / 1048576 ∧ cz / 1048576 ≤ 9 ∧ 2 ≤ h z ∧ h (z + 1) = h z - 1))
/-- the steps of c from f to t are a program -/
def xTyp (c : Nat → Int) (b f t : Int) : Prop := ∃ h : Int → Int, h f = 0 ∧ ∀ z : Int, f ≤ z → z < t → xStp b f t h z (c z.toNat)
/-- clause q of the texts is a program for its number and one for its condition -/
def xCl (G : Nat → Nat → Int) (q : Nat) : Prop := 220 * ((q : Int) / 14) ≤ G 14 q ∧ G 14 q ≤ G 15 q ∧ G 15 q ≤ G 16 q ∧ G 16 q ≤ 220 * ((q : Int) / 14) + 200 ∧ xTyp (G 11) (220 * ((q : Int) / 14)) (G 14 q) (G 15 q) ∧ xTyp (G 11) (220 * ((q : Int) / 14)) (G 15 q) (G 16 q)
def WP (G : Nat → Nat → Int) : Prop := ∀ q : Nat, q < 70 → ((q % 14 : Nat) : Int) < G 12 (q / 14) → xCl G q
end
section
theorem dX12_reckon_0 : decode cX12_reckon 0 = .ok (.iload_n 0, 1) := by decide +kernel
theorem dX12_reckon_1 : decode cX12_reckon 1 = .ok (.tableswitch 85 2 8 #[43, 47, 51, 55, 59, 63, 74], 43) := by decide +kernel
theorem dX12_reckon_44 : decode cX12_reckon 44 = .ok (.iload_n 1, 1) := by decide +kernel
theorem dX12_reckon_45 : decode cX12_reckon 45 = .ok (.iload_n 2, 1) := by decide +kernel
theorem dX12_reckon_46 : decode cX12_reckon 46 = .ok (.iadd, 1) := by decide +kernel
theorem dX12_reckon_47 : decode cX12_reckon 47 = .ok (.ireturn, 1) := by decide +kernel
theorem dX12_reckon_48 : decode cX12_reckon 48 = .ok (.iload_n 1, 1) := by decide +kernel
theorem dX12_reckon_49 : decode cX12_reckon 49 = .ok (.iload_n 2, 1) := by decide +kernel
theorem dX12_reckon_50 : decode cX12_reckon 50 = .ok (.isub, 1) := by decide +kernel
theorem dX12_reckon_51 : decode cX12_reckon 51 = .ok (.ireturn, 1) := by decide +kernel
theorem dX12_reckon_52 : decode cX12_reckon 52 = .ok (.iload_n 1, 1) := by decide +kernel
theorem dX12_reckon_53 : decode cX12_reckon 53 = .ok (.iload_n 2, 1) := by decide +kernel
theorem dX12_reckon_54 : decode cX12_reckon 54 = .ok (.imul, 1) := by decide +kernel
theorem dX12_reckon_55 : decode cX12_reckon 55 = .ok (.ireturn, 1) := by decide +kernel
theorem dX12_reckon_56 : decode cX12_reckon 56 = .ok (.iload_n 1, 1) := by decide +kernel
theorem dX12_reckon_57 : decode cX12_reckon 57 = .ok (.iload_n 2, 1) := by decide +kernel
theorem dX12_reckon_58 : decode cX12_reckon 58 = .ok (.idiv, 1) := by decide +kernel
theorem dX12_reckon_59 : decode cX12_reckon 59 = .ok (.ireturn, 1) := by decide +kernel
theorem dX12_reckon_60 : decode cX12_reckon 60 = .ok (.iload_n 1, 1) := by decide +kernel
theorem dX12_reckon_61 : decode cX12_reckon 61 = .ok (.iload_n 2, 1) := by decide +kernel
theorem dX12_reckon_62 : decode cX12_reckon 62 = .ok (.irem, 1) := by decide +kernel
theorem dX12_reckon_63 : decode cX12_reckon 63 = .ok (.ireturn, 1) := by decide +kernel
theorem dX12_reckon_64 : decode cX12_reckon 64 = .ok (.iload_n 1, 1) := by decide +kernel
theorem dX12_reckon_65 : decode cX12_reckon 65 = .ok (.iload_n 2, 1) := by decide +kernel
theorem dX12_reckon_66 : decode cX12_reckon 66 = .ok (.if_icmp .ge 7, 3) := by decide +kernel
theorem dX12_reckon_69 : decode cX12_reckon 69 = .ok (.iconst 1, 1) := by decide +kernel
theorem dX12_reckon_70 : decode cX12_reckon 70 = .ok (.goto 4, 3) := by decide +kernel
theorem dX12_reckon_73 : decode cX12_reckon 73 = .ok (.iconst 0, 1) := by decide +kernel
theorem dX12_reckon_74 : decode cX12_reckon 74 = .ok (.ireturn, 1) := by decide +kernel
theorem dX12_reckon_75 : decode cX12_reckon 75 = .ok (.iload_n 1, 1) := by decide +kernel
theorem dX12_reckon_76 : decode cX12_reckon 76 = .ok (.iload_n 2, 1) := by decide +kernel
theorem dX12_reckon_77 : decode cX12_reckon 77 = .ok (.if_icmp .le 7, 3) := by decide +kernel
theorem dX12_reckon_80 : decode cX12_reckon 80 = .ok (.iconst 1, 1) := by decide +kernel
theorem dX12_reckon_81 : decode cX12_reckon 81 = .ok (.goto 4, 3) := by decide +kernel
theorem dX12_reckon_84 : decode cX12_reckon 84 = .ok (.iconst 0, 1) := by decide +kernel
theorem dX12_reckon_85 : decode cX12_reckon 85 = .ok (.ireturn, 1) := by decide +kernel
theorem dX12_reckon_86 : decode cX12_reckon 86 = .ok (.iload_n 1, 1) := by decide +kernel
theorem dX12_reckon_87 : decode cX12_reckon 87 = .ok (.iload_n 2, 1) := by decide +kernel
theorem dX12_reckon_88 : decode cX12_reckon 88 = .ok (.if_icmp .ne 7, 3) := by decide +kernel
theorem dX12_reckon_91 : decode cX12_reckon 91 = .ok (.iconst 1, 1) := by decide +kernel
theorem dX12_reckon_92 : decode cX12_reckon 92 = .ok (.goto 4, 3) := by decide +kernel
theorem dX12_reckon_95 : decode cX12_reckon 95 = .ok (.iconst 0, 1) := by decide +kernel
theorem dX12_reckon_96 : decode cX12_reckon 96 = .ok (.ireturn, 1) := by decide +kernel
set_option maxRecDepth 100000 in
def f_m_reckon (x0 : Int) (x1 : Int) (x2 : Int) : (Int) → Prop :=
  (if x0 = 2 then rdb (wr (x1 + x2)) fun z2 => rtn z2 else (if x0 = 3 then rdb (wr (x1 - x2)) fun z4 => rtn z4 else (if x0 = 4 then rdb (wr (x1 * x2)) fun z6 => rtn z6 else (if x0 = 5 then rdb (iDiv x1 x2) fun z8 => rtn z8 else (if x0 = 6 then rdb (iRem x1 x2) fun z10 => rtn z10 else (if x0 = 7 then (if x2 ≤ x1 then rtn 0 else rtn 1) else (if x0 = 8 then (if x1 ≤ x2 then rtn 0 else rtn 1) else (if ¬ x1 = x2 then rtn 0 else rtn 1))))))))
set_option maxHeartbeats 8000000 in
set_option maxRecDepth 100000 in
theorem m_reckon (l : Launch) (D : va_G) (cy : Nat → ClassId) (x0 : Int) (bx0 : -2147483648 ≤ x0 ∧ x0 ≤ 2147483647) (x1 : Int) (bx1 : -2147483648 ≤ x1 ∧ x1 ≤ 2147483647) (x2 : Int) (bx2 : -2147483648 ≤ x2 ∧ x2 ≤ 2147483647) (hnz : (¬ x0 = 5 ∧ ¬ x0 = 6) ∨ ¬ x2 = 0) : xMi l D (xTY cy) yX12_reckon cX12_reckon 3 (some .int) 0 0 0 0 [vI x0, vI x1, vI x2] [] (fun _ : Unit => []) (fun a (u : Unit) => (f_m_reckon x0 x1 x2) a) := by
  refine xMi.mk (lv0 := [(0, vI x0), (1, vI x1), (2, vI x2)]) (by decide) rfl (Nat.le_of_ble_eq_true rfl) (fun p e s m below meth c A C hr hnm hAe => ?_)
  have C : xC2 p s m _ meth c D A s.heap 3 cX12_reckon RX12 (xTY cy) := C
  have hF := Imp.of_eq (f_m_reckon.eq_def x0 x1 x2)
  refine x_iload_n C.1 dX12_reckon_0 0 rfl ?_
  by_cases hs1 : x0 = 2
  · replace hF := hF.to (if_pos hs1)
    refine x_tabIn C.1 2 hs1 (by decide) (tgt := 44) dX12_reckon_1 (by decide) (by decide) rfl (by decide) ?_
    refine x_iload_n C.1 dX12_reckon_44 1 rfl ?_
    refine x_iload_n C.1 dX12_reckon_45 2 rfl ?_
    refine x_iadd C.1 (v := x1 + x2) (by omega) dX12_reckon_46 ?_
    refine x_wrapg ?_
    intro z2 bz2 ew2
    replace hF := hF.to (rdb_e (z := z2) ew2.symm)
    exact x_iret (S := Unit) (post := (fun a (u : Unit) => (f_m_reckon x0 x1 x2) a)) (w1 := (fun _ : Unit => [])) (a := z2) C hr rfl dX12_reckon_47 (by omega) () rfl (hF _ rfl)
  replace hF := hF.to (if_neg hs1)
  by_cases hs3 : x0 = 3
  · replace hF := hF.to (if_pos hs3)
    refine x_tabIn C.1 3 hs3 (by decide) (tgt := 48) dX12_reckon_1 (by decide) (by decide) rfl (by decide) ?_
    refine x_iload_n C.1 dX12_reckon_48 1 rfl ?_
    refine x_iload_n C.1 dX12_reckon_49 2 rfl ?_
    refine x_isub C.1 (v := x1 - x2) (by omega) dX12_reckon_50 ?_
    refine x_wrapg ?_
    intro z4 bz4 ew4
    replace hF := hF.to (rdb_e (z := z4) ew4.symm)
    exact x_iret (S := Unit) (post := (fun a (u : Unit) => (f_m_reckon x0 x1 x2) a)) (w1 := (fun _ : Unit => [])) (a := z4) C hr rfl dX12_reckon_51 (by omega) () rfl (hF _ rfl)
  replace hF := hF.to (if_neg hs3)
  by_cases hs5 : x0 = 4
  · replace hF := hF.to (if_pos hs5)
    refine x_tabIn C.1 4 hs5 (by decide) (tgt := 52) dX12_reckon_1 (by decide) (by decide) rfl (by decide) ?_
    refine x_iload_n C.1 dX12_reckon_52 1 rfl ?_
    refine x_iload_n C.1 dX12_reckon_53 2 rfl ?_
    refine x_imul C.1 rfl dX12_reckon_54 ?_
    refine x_wrapg ?_
    intro z6 bz6 ew6
    replace hF := hF.to (rdb_e (z := z6) ew6.symm)
    exact x_iret (S := Unit) (post := (fun a (u : Unit) => (f_m_reckon x0 x1 x2) a)) (w1 := (fun _ : Unit => [])) (a := z6) C hr rfl dX12_reckon_55 (by omega) () rfl (hF _ rfl)
  replace hF := hF.to (if_neg hs5)
  by_cases hs7 : x0 = 5
  · replace hF := hF.to (if_pos hs7)
    refine x_tabIn C.1 5 hs7 (by decide) (tgt := 56) dX12_reckon_1 (by decide) (by decide) rfl (by decide) ?_
    refine x_iload_n C.1 dX12_reckon_56 1 rfl ?_
    refine x_iload_n C.1 dX12_reckon_57 2 rfl ?_
    obtain ⟨z8, hz8, bz8⟩ : ∃ z : Int, iDiv x1 x2 = z ∧ (-2147483648 ≤ z ∧ z ≤ 2147483647) := ⟨_, rfl, xi_r _⟩
    replace hF := hF.to (rdb_e (z := z8) hz8)
    refine x_idiv C.1 (v := z8) hz8 dX12_reckon_58 (by omega) (by omega) ?_
    exact x_iret (S := Unit) (post := (fun a (u : Unit) => (f_m_reckon x0 x1 x2) a)) (w1 := (fun _ : Unit => [])) (a := z8) C hr rfl dX12_reckon_59 (by omega) () rfl (hF _ rfl)
  replace hF := hF.to (if_neg hs7)
  by_cases hs9 : x0 = 6
  · replace hF := hF.to (if_pos hs9)
    refine x_tabIn C.1 6 hs9 (by decide) (tgt := 60) dX12_reckon_1 (by decide) (by decide) rfl (by decide) ?_
    refine x_iload_n C.1 dX12_reckon_60 1 rfl ?_
    refine x_iload_n C.1 dX12_reckon_61 2 rfl ?_
    obtain ⟨z10, hz10, bz10⟩ : ∃ z : Int, iRem x1 x2 = z ∧ (-2147483648 ≤ z ∧ z ≤ 2147483647) := ⟨_, rfl, xi_r _⟩
    replace hF := hF.to (rdb_e (z := z10) hz10)
    refine x_irem C.1 (v := z10) hz10 dX12_reckon_62 (by omega) (by omega) ?_
    exact x_iret (S := Unit) (post := (fun a (u : Unit) => (f_m_reckon x0 x1 x2) a)) (w1 := (fun _ : Unit => [])) (a := z10) C hr rfl dX12_reckon_63 (by omega) () rfl (hF _ rfl)
  replace hF := hF.to (if_neg hs9)
  by_cases hs11 : x0 = 7
  · replace hF := hF.to (if_pos hs11)
    refine x_tabIn C.1 7 hs11 (by decide) (tgt := 64) dX12_reckon_1 (by decide) (by decide) rfl (by decide) ?_
    refine x_iload_n C.1 dX12_reckon_64 1 rfl ?_
    refine x_iload_n C.1 dX12_reckon_65 2 rfl ?_
    refine x_icmp_ge C.1 (tgt := 73) dX12_reckon_66 (by decide) (by omega) (by omega) (fun hc12 => ?_) (fun hc12 => ?_)
    · replace hF := hF.to (if_pos hc12)
      refine x_iconst C.1 (n := 0) dX12_reckon_73 ?_
      exact x_iret (S := Unit) (post := (fun a (u : Unit) => (f_m_reckon x0 x1 x2) a)) (w1 := (fun _ : Unit => [])) (a := 0) C hr rfl dX12_reckon_74 (by decide) () rfl (hF _ rfl)
    · replace hF := hF.to (if_neg hc12)
      refine x_iconst C.1 (n := 1) dX12_reckon_69 ?_
      refine x_goto C.1 (tgt := 74) dX12_reckon_70 (by decide) ?_
      exact x_iret (S := Unit) (post := (fun a (u : Unit) => (f_m_reckon x0 x1 x2) a)) (w1 := (fun _ : Unit => [])) (a := 1) C hr rfl dX12_reckon_74 (by decide) () rfl (hF _ rfl)
  replace hF := hF.to (if_neg hs11)
  by_cases hs13 : x0 = 8
  · replace hF := hF.to (if_pos hs13)
    refine x_tabIn C.1 8 hs13 (by decide) (tgt := 75) dX12_reckon_1 (by decide) (by decide) rfl (by decide) ?_
    refine x_iload_n C.1 dX12_reckon_75 1 rfl ?_
    refine x_iload_n C.1 dX12_reckon_76 2 rfl ?_
    refine x_icmp_le C.1 (tgt := 84) dX12_reckon_77 (by decide) (by omega) (by omega) (fun hc14 => ?_) (fun hc14 => ?_)
    · replace hF := hF.to (if_pos hc14)
      refine x_iconst C.1 (n := 0) dX12_reckon_84 ?_
      exact x_iret (S := Unit) (post := (fun a (u : Unit) => (f_m_reckon x0 x1 x2) a)) (w1 := (fun _ : Unit => [])) (a := 0) C hr rfl dX12_reckon_85 (by decide) () rfl (hF _ rfl)
    · replace hF := hF.to (if_neg hc14)
      refine x_iconst C.1 (n := 1) dX12_reckon_80 ?_
      refine x_goto C.1 (tgt := 85) dX12_reckon_81 (by decide) ?_
      exact x_iret (S := Unit) (post := (fun a (u : Unit) => (f_m_reckon x0 x1 x2) a)) (w1 := (fun _ : Unit => [])) (a := 1) C hr rfl dX12_reckon_85 (by decide) () rfl (hF _ rfl)
  replace hF := hF.to (if_neg hs13)
  refine x_tabOut C.1 (tgt := 86) (by omega) dX12_reckon_1 (by omega) (by decide) ?_
  refine x_iload_n C.1 dX12_reckon_86 1 rfl ?_
  refine x_iload_n C.1 dX12_reckon_87 2 rfl ?_
  refine x_icmp_ne C.1 (tgt := 95) dX12_reckon_88 (by decide) (by omega) (by omega) (fun hc15 => ?_) (fun hc15 => ?_)
  · replace hF := hF.to (if_pos hc15)
    refine x_iconst C.1 (n := 0) dX12_reckon_95 ?_
    exact x_iret (S := Unit) (post := (fun a (u : Unit) => (f_m_reckon x0 x1 x2) a)) (w1 := (fun _ : Unit => [])) (a := 0) C hr rfl dX12_reckon_96 (by decide) () rfl (hF _ rfl)
  · replace hF := hF.to (if_neg (fun hh => hh hc15))
    refine x_iconst C.1 (n := 1) dX12_reckon_91 ?_
    refine x_goto C.1 (tgt := 96) dX12_reckon_92 (by decide) ?_
    exact x_iret (S := Unit) (post := (fun a (u : Unit) => (f_m_reckon x0 x1 x2) a)) (w1 := (fun _ : Unit => [])) (a := 1) C hr rfl dX12_reckon_96 (by decide) () rfl (hF _ rfl)
theorem hd_yX12_reckon : yX12_reckon.cls ≠ "java/lang/invoke/MethodHandle" ∧ yX12_reckon.cls ≠ "java/lang/invoke/VarHandle" ∧ (parseMethodDescriptor yX12_reckon.desc).map (fun d => d.parameters.length) = some 3 := by decide +kernel
theorem dX12_comesTo_0 : decode cX12_comesTo 0 = .ok (.iconst 0, 1) := by decide +kernel
theorem dX12_comesTo_1 : decode cX12_comesTo 1 = .ok (.istore_n 3, 1) := by decide +kernel
theorem dX12_comesTo_2 : decode cX12_comesTo 2 = .ok (.sipush 220, 3) := by decide +kernel
theorem dX12_comesTo_5 : decode cX12_comesTo 5 = .ok (.iload_n 1, 1) := by decide +kernel
theorem dX12_comesTo_6 : decode cX12_comesTo 6 = .ok (.sipush 220, 3) := by decide +kernel
theorem dX12_comesTo_9 : decode cX12_comesTo 9 = .ok (.idiv, 1) := by decide +kernel
theorem dX12_comesTo_10 : decode cX12_comesTo 10 = .ok (.imul, 1) := by decide +kernel
theorem dX12_comesTo_11 : decode cX12_comesTo 11 = .ok (.istore 4, 2) := by decide +kernel
theorem dX12_comesTo_13 : decode cX12_comesTo 13 = .ok (.iload_n 1, 1) := by decide +kernel
theorem dX12_comesTo_14 : decode cX12_comesTo 14 = .ok (.istore 5, 2) := by decide +kernel
theorem dX12_comesTo_16 : decode cX12_comesTo 16 = .ok (.iload 5, 2) := by decide +kernel
theorem dX12_comesTo_18 : decode cX12_comesTo 18 = .ok (.iload_n 2, 1) := by decide +kernel
theorem dX12_comesTo_19 : decode cX12_comesTo 19 = .ok (.if_icmp .ge 214, 3) := by decide +kernel
theorem dX12_comesTo_22 : decode cX12_comesTo 22 = .ok (.aload_n 0, 1) := by decide +kernel
theorem dX12_comesTo_23 : decode cX12_comesTo 23 = .ok (.getfield 41, 3) := by decide +kernel
theorem dX12_comesTo_26 : decode cX12_comesTo 26 = .ok (.iload 5, 2) := by decide +kernel
theorem dX12_comesTo_28 : decode cX12_comesTo 28 = .ok (.iaload, 1) := by decide +kernel
theorem dX12_comesTo_29 : decode cX12_comesTo 29 = .ok (.ldc 170, 2) := by decide +kernel
theorem dX12_comesTo_31 : decode cX12_comesTo 31 = .ok (.idiv, 1) := by decide +kernel
theorem dX12_comesTo_32 : decode cX12_comesTo 32 = .ok (.istore 6, 2) := by decide +kernel
theorem dX12_comesTo_34 : decode cX12_comesTo 34 = .ok (.aload_n 0, 1) := by decide +kernel
theorem dX12_comesTo_35 : decode cX12_comesTo 35 = .ok (.getfield 41, 3) := by decide +kernel
theorem dX12_comesTo_38 : decode cX12_comesTo 38 = .ok (.iload 5, 2) := by decide +kernel
theorem dX12_comesTo_40 : decode cX12_comesTo 40 = .ok (.iaload, 1) := by decide +kernel
theorem dX12_comesTo_41 : decode cX12_comesTo 41 = .ok (.ldc 170, 2) := by decide +kernel
theorem dX12_comesTo_43 : decode cX12_comesTo 43 = .ok (.irem, 1) := by decide +kernel
theorem dX12_comesTo_44 : decode cX12_comesTo 44 = .ok (.istore 7, 2) := by decide +kernel
theorem dX12_comesTo_46 : decode cX12_comesTo 46 = .ok (.iload 5, 2) := by decide +kernel
theorem dX12_comesTo_48 : decode cX12_comesTo 48 = .ok (.iconst 1, 1) := by decide +kernel
theorem dX12_comesTo_49 : decode cX12_comesTo 49 = .ok (.iadd, 1) := by decide +kernel
theorem dX12_comesTo_50 : decode cX12_comesTo 50 = .ok (.istore 5, 2) := by decide +kernel
theorem dX12_comesTo_52 : decode cX12_comesTo 52 = .ok (.iload 6, 2) := by decide +kernel
theorem dX12_comesTo_54 : decode cX12_comesTo 54 = .ok (.ifCond .eq 9, 3) := by decide +kernel
theorem dX12_comesTo_57 : decode cX12_comesTo 57 = .ok (.iload 6, 2) := by decide +kernel
theorem dX12_comesTo_59 : decode cX12_comesTo 59 = .ok (.iconst 1, 1) := by decide +kernel
theorem dX12_comesTo_60 : decode cX12_comesTo 60 = .ok (.if_icmp .ne 33, 3) := by decide +kernel
theorem dX12_comesTo_63 : decode cX12_comesTo 63 = .ok (.aload_n 0, 1) := by decide +kernel
theorem dX12_comesTo_64 : decode cX12_comesTo 64 = .ok (.getfield 59, 3) := by decide +kernel
theorem dX12_comesTo_67 : decode cX12_comesTo 67 = .ok (.iload_n 3, 1) := by decide +kernel
theorem dX12_comesTo_68 : decode cX12_comesTo 68 = .ok (.iload 6, 2) := by decide +kernel
theorem dX12_comesTo_70 : decode cX12_comesTo 70 = .ok (.ifCond .ne 8, 3) := by decide +kernel
theorem dX12_comesTo_73 : decode cX12_comesTo 73 = .ok (.iload 7, 2) := by decide +kernel
theorem dX12_comesTo_75 : decode cX12_comesTo 75 = .ok (.goto 10, 3) := by decide +kernel
theorem dX12_comesTo_78 : decode cX12_comesTo 78 = .ok (.aload_n 0, 1) := by decide +kernel
theorem dX12_comesTo_79 : decode cX12_comesTo 79 = .ok (.getfield 62, 3) := by decide +kernel
theorem dX12_comesTo_82 : decode cX12_comesTo 82 = .ok (.iload 7, 2) := by decide +kernel
theorem dX12_comesTo_84 : decode cX12_comesTo 84 = .ok (.iaload, 1) := by decide +kernel
theorem dX12_comesTo_85 : decode cX12_comesTo 85 = .ok (.iastore, 1) := by decide +kernel
theorem dX12_comesTo_86 : decode cX12_comesTo 86 = .ok (.iload_n 3, 1) := by decide +kernel
theorem dX12_comesTo_87 : decode cX12_comesTo 87 = .ok (.iconst 1, 1) := by decide +kernel
theorem dX12_comesTo_88 : decode cX12_comesTo 88 = .ok (.iadd, 1) := by decide +kernel
theorem dX12_comesTo_89 : decode cX12_comesTo 89 = .ok (.istore_n 3, 1) := by decide +kernel
theorem dX12_comesTo_90 : decode cX12_comesTo 90 = .ok (.goto 140, 3) := by decide +kernel
theorem dX12_comesTo_93 : decode cX12_comesTo 93 = .ok (.iload 6, 2) := by decide +kernel
theorem dX12_comesTo_95 : decode cX12_comesTo 95 = .ok (.bipush 10, 2) := by decide +kernel
theorem dX12_comesTo_97 : decode cX12_comesTo 97 = .ok (.if_icmp .ne 24, 3) := by decide +kernel
theorem dX12_comesTo_100 : decode cX12_comesTo 100 = .ok (.aload_n 0, 1) := by decide +kernel
theorem dX12_comesTo_101 : decode cX12_comesTo 101 = .ok (.getfield 59, 3) := by decide +kernel
theorem dX12_comesTo_104 : decode cX12_comesTo 104 = .ok (.iload_n 3, 1) := by decide +kernel
theorem dX12_comesTo_105 : decode cX12_comesTo 105 = .ok (.iconst 1, 1) := by decide +kernel
theorem dX12_comesTo_106 : decode cX12_comesTo 106 = .ok (.isub, 1) := by decide +kernel
theorem dX12_comesTo_107 : decode cX12_comesTo 107 = .ok (.iconst 1, 1) := by decide +kernel
theorem dX12_comesTo_108 : decode cX12_comesTo 108 = .ok (.aload_n 0, 1) := by decide +kernel
theorem dX12_comesTo_109 : decode cX12_comesTo 109 = .ok (.getfield 59, 3) := by decide +kernel
theorem dX12_comesTo_112 : decode cX12_comesTo 112 = .ok (.iload_n 3, 1) := by decide +kernel
theorem dX12_comesTo_113 : decode cX12_comesTo 113 = .ok (.iconst 1, 1) := by decide +kernel
theorem dX12_comesTo_114 : decode cX12_comesTo 114 = .ok (.isub, 1) := by decide +kernel
theorem dX12_comesTo_115 : decode cX12_comesTo 115 = .ok (.iaload, 1) := by decide +kernel
theorem dX12_comesTo_116 : decode cX12_comesTo 116 = .ok (.isub, 1) := by decide +kernel
theorem dX12_comesTo_117 : decode cX12_comesTo 117 = .ok (.iastore, 1) := by decide +kernel
theorem dX12_comesTo_118 : decode cX12_comesTo 118 = .ok (.goto 112, 3) := by decide +kernel
theorem dX12_comesTo_121 : decode cX12_comesTo 121 = .ok (.iload 6, 2) := by decide +kernel
theorem dX12_comesTo_123 : decode cX12_comesTo 123 = .ok (.bipush 11, 2) := by decide +kernel
theorem dX12_comesTo_125 : decode cX12_comesTo 125 = .ok (.if_icmp .eq 10, 3) := by decide +kernel
theorem dX12_comesTo_128 : decode cX12_comesTo 128 = .ok (.iload 6, 2) := by decide +kernel
theorem dX12_comesTo_130 : decode cX12_comesTo 130 = .ok (.bipush 12, 2) := by decide +kernel
theorem dX12_comesTo_132 : decode cX12_comesTo 132 = .ok (.if_icmp .ne 43, 3) := by decide +kernel
theorem dX12_comesTo_135 : decode cX12_comesTo 135 = .ok (.aload_n 0, 1) := by decide +kernel
theorem dX12_comesTo_136 : decode cX12_comesTo 136 = .ok (.getfield 59, 3) := by decide +kernel
theorem dX12_comesTo_139 : decode cX12_comesTo 139 = .ok (.iload_n 3, 1) := by decide +kernel
theorem dX12_comesTo_140 : decode cX12_comesTo 140 = .ok (.iconst 1, 1) := by decide +kernel
theorem dX12_comesTo_141 : decode cX12_comesTo 141 = .ok (.isub, 1) := by decide +kernel
theorem dX12_comesTo_142 : decode cX12_comesTo 142 = .ok (.iaload, 1) := by decide +kernel
theorem dX12_comesTo_143 : decode cX12_comesTo 143 = .ok (.iload 6, 2) := by decide +kernel
theorem dX12_comesTo_145 : decode cX12_comesTo 145 = .ok (.bipush 12, 2) := by decide +kernel
theorem dX12_comesTo_147 : decode cX12_comesTo 147 = .ok (.if_icmp .ne 7, 3) := by decide +kernel
theorem dX12_comesTo_150 : decode cX12_comesTo 150 = .ok (.iconst 1, 1) := by decide +kernel
theorem dX12_comesTo_151 : decode cX12_comesTo 151 = .ok (.goto 4, 3) := by decide +kernel
theorem dX12_comesTo_154 : decode cX12_comesTo 154 = .ok (.iconst 0, 1) := by decide +kernel
theorem dX12_comesTo_155 : decode cX12_comesTo 155 = .ok (.if_icmp .ne 13, 3) := by decide +kernel
theorem dX12_comesTo_158 : decode cX12_comesTo 158 = .ok (.iload 4, 2) := by decide +kernel
theorem dX12_comesTo_160 : decode cX12_comesTo 160 = .ok (.iload 7, 2) := by decide +kernel
theorem dX12_comesTo_162 : decode cX12_comesTo 162 = .ok (.iadd, 1) := by decide +kernel
theorem dX12_comesTo_163 : decode cX12_comesTo 163 = .ok (.istore 5, 2) := by decide +kernel
theorem dX12_comesTo_165 : decode cX12_comesTo 165 = .ok (.goto 65, 3) := by decide +kernel
theorem dX12_comesTo_168 : decode cX12_comesTo 168 = .ok (.iload_n 3, 1) := by decide +kernel
theorem dX12_comesTo_169 : decode cX12_comesTo 169 = .ok (.iconst 1, 1) := by decide +kernel
theorem dX12_comesTo_170 : decode cX12_comesTo 170 = .ok (.isub, 1) := by decide +kernel
theorem dX12_comesTo_171 : decode cX12_comesTo 171 = .ok (.istore_n 3, 1) := by decide +kernel
theorem dX12_comesTo_172 : decode cX12_comesTo 172 = .ok (.goto 58, 3) := by decide +kernel
theorem dX12_comesTo_175 : decode cX12_comesTo 175 = .ok (.iload_n 3, 1) := by decide +kernel
theorem dX12_comesTo_176 : decode cX12_comesTo 176 = .ok (.iconst 1, 1) := by decide +kernel
theorem dX12_comesTo_177 : decode cX12_comesTo 177 = .ok (.isub, 1) := by decide +kernel
theorem dX12_comesTo_178 : decode cX12_comesTo 178 = .ok (.istore_n 3, 1) := by decide +kernel
theorem dX12_comesTo_179 : decode cX12_comesTo 179 = .ok (.iload 6, 2) := by decide +kernel
theorem dX12_comesTo_181 : decode cX12_comesTo 181 = .ok (.iconst 5, 1) := by decide +kernel
theorem dX12_comesTo_182 : decode cX12_comesTo 182 = .ok (.if_icmp .eq 10, 3) := by decide +kernel
theorem dX12_comesTo_185 : decode cX12_comesTo 185 = .ok (.iload 6, 2) := by decide +kernel
theorem dX12_comesTo_187 : decode cX12_comesTo 187 = .ok (.bipush 6, 2) := by decide +kernel
theorem dX12_comesTo_189 : decode cX12_comesTo 189 = .ok (.if_icmp .ne 14, 3) := by decide +kernel
theorem dX12_comesTo_192 : decode cX12_comesTo 192 = .ok (.aload_n 0, 1) := by decide +kernel
theorem dX12_comesTo_193 : decode cX12_comesTo 193 = .ok (.getfield 59, 3) := by decide +kernel
theorem dX12_comesTo_196 : decode cX12_comesTo 196 = .ok (.iload_n 3, 1) := by decide +kernel
theorem dX12_comesTo_197 : decode cX12_comesTo 197 = .ok (.iaload, 1) := by decide +kernel
theorem dX12_comesTo_198 : decode cX12_comesTo 198 = .ok (.ifCond .ne 5, 3) := by decide +kernel
theorem dX12_comesTo_201 : decode cX12_comesTo 201 = .ok (.iconst 0, 1) := by decide +kernel
theorem dX12_comesTo_202 : decode cX12_comesTo 202 = .ok (.ireturn, 1) := by decide +kernel
theorem dX12_comesTo_203 : decode cX12_comesTo 203 = .ok (.aload_n 0, 1) := by decide +kernel
theorem dX12_comesTo_204 : decode cX12_comesTo 204 = .ok (.getfield 59, 3) := by decide +kernel
theorem dX12_comesTo_207 : decode cX12_comesTo 207 = .ok (.iload_n 3, 1) := by decide +kernel
theorem dX12_comesTo_208 : decode cX12_comesTo 208 = .ok (.iconst 1, 1) := by decide +kernel
theorem dX12_comesTo_209 : decode cX12_comesTo 209 = .ok (.isub, 1) := by decide +kernel
theorem dX12_comesTo_210 : decode cX12_comesTo 210 = .ok (.iload 6, 2) := by decide +kernel
theorem dX12_comesTo_212 : decode cX12_comesTo 212 = .ok (.aload_n 0, 1) := by decide +kernel
theorem dX12_comesTo_213 : decode cX12_comesTo 213 = .ok (.getfield 59, 3) := by decide +kernel
theorem dX12_comesTo_216 : decode cX12_comesTo 216 = .ok (.iload_n 3, 1) := by decide +kernel
theorem dX12_comesTo_217 : decode cX12_comesTo 217 = .ok (.iconst 1, 1) := by decide +kernel
theorem dX12_comesTo_218 : decode cX12_comesTo 218 = .ok (.isub, 1) := by decide +kernel
theorem dX12_comesTo_219 : decode cX12_comesTo 219 = .ok (.iaload, 1) := by decide +kernel
theorem dX12_comesTo_220 : decode cX12_comesTo 220 = .ok (.aload_n 0, 1) := by decide +kernel
theorem dX12_comesTo_221 : decode cX12_comesTo 221 = .ok (.getfield 59, 3) := by decide +kernel
theorem dX12_comesTo_224 : decode cX12_comesTo 224 = .ok (.iload_n 3, 1) := by decide +kernel
theorem dX12_comesTo_225 : decode cX12_comesTo 225 = .ok (.iaload, 1) := by decide +kernel
theorem dX12_comesTo_226 : decode cX12_comesTo 226 = .ok (.invokestatic 240, 3) := by decide +kernel
theorem dX12_comesTo_229 : decode cX12_comesTo 229 = .ok (.iastore, 1) := by decide +kernel
theorem dX12_comesTo_230 : decode cX12_comesTo 230 = .ok (.goto (-214), 3) := by decide +kernel
theorem dX12_comesTo_233 : decode cX12_comesTo 233 = .ok (.aload_n 0, 1) := by decide +kernel
theorem dX12_comesTo_234 : decode cX12_comesTo 234 = .ok (.getfield 59, 3) := by decide +kernel
theorem dX12_comesTo_237 : decode cX12_comesTo 237 = .ok (.iconst 0, 1) := by decide +kernel
theorem dX12_comesTo_238 : decode cX12_comesTo 238 = .ok (.iaload, 1) := by decide +kernel
theorem dX12_comesTo_239 : decode cX12_comesTo 239 = .ok (.ireturn, 1) := by decide +kernel
set_option maxRecDepth 100000 in
def f_m_comesTo (x1 : Int) (x2 : Int) (V : Nat → Nat → Int) (J : Nat → Nat → Int) (Rr : Nat → Nat → Nat) : (Int × (Nat → Nat → Int)) → Prop :=
  rdb (iDiv x1 220) fun z1 => fct (0 ≤ z1 ∧ z1 ≤ 1099) <| lop3 ((x2 - x1).toNat + 1) (fun rc78 (z76 : Int) (z77 : Int) (V78 : Nat → Nat → Int) => (if x2 ≤ z76 then rdb (V78 17 0) fun z80 => rtn (z80, V78) else rdb (V78 11 z76.toNat) fun z81 => rdb (iDiv z81 1048576) fun z82 => fct (0 ≤ z82 ∧ z82 ≤ 2147483647) <| rdb (iRem z81 1048576) fun z83 => fct (0 ≤ z83 ∧ z83 ≤ 1048575) <| (if z82 = 0 then rdb (up2 V78 17 z77.toNat z83) fun V85 => rc78 (z76 + 1) (z77 + 1) V85 else (if ¬ z82 = 1 then (if ¬ z82 = 10 then (if z82 = 11 then rdb (V78 17 ((z77 - 1).toNat)) fun z89 => (if ¬ z89 = 0 then rc78 (z76 + 1) (z77 - 1) V78 else rc78 (220 * z1 + z83) z77 V78) else (if ¬ z82 = 12 then (if z82 = 5 then rdb (V78 17 ((z77 - 1).toNat)) fun z93 => (if ¬ z93 = 0 then rdb (V78 17 ((z77 - 2).toNat)) fun z95 => calR (f_m_reckon z82 z95 z93) fun z96 => rdb (up2 V78 17 ((z77 - 2).toNat) z96) fun V97 => rc78 (z76 + 1) (z77 - 1) V97 else rtn (0, V78)) else (if ¬ z82 = 6 then rdb (V78 17 ((z77 - 2).toNat)) fun z99 => rdb (V78 17 ((z77 - 1).toNat)) fun z100 => calR (f_m_reckon z82 z99 z100) fun z101 => rdb (up2 V78 17 ((z77 - 2).toNat) z101) fun V102 => rc78 (z76 + 1) (z77 - 1) V102 else rdb (V78 17 ((z77 - 1).toNat)) fun z103 => (if ¬ z103 = 0 then rdb (V78 17 ((z77 - 2).toNat)) fun z105 => calR (f_m_reckon z82 z105 z103) fun z106 => rdb (up2 V78 17 ((z77 - 2).toNat) z106) fun V107 => rc78 (z76 + 1) (z77 - 1) V107 else rtn (0, V78)))) else rdb (V78 17 ((z77 - 1).toNat)) fun z108 => (if ¬ z108 = 1 then rc78 (z76 + 1) (z77 - 1) V78 else rc78 (220 * z1 + z83) z77 V78))) else rdb (V78 17 ((z77 - 1).toNat)) fun z110 => rdb (wr (-z110 + 1)) fun z111 => rdb (up2 V78 17 ((z77 - 1).toNat) z111) fun V112 => rc78 (z76 + 1) z77 V112) else rdb (V78 18 z83.toNat) fun z113 => rdb (up2 V78 17 z77.toNat z113) fun V114 => rc78 (z76 + 1) (z77 + 1) V114)))) x1 0 V
set_option maxHeartbeats 8000000 in
set_option maxRecDepth 100000 in
theorem m_comesTo (l : Launch) (D : va_G) (cy : Nat → ClassId) (ad : Nat → Nat) (G : Nat → Nat → Int) (V J : Nat → Nat → Int) (Rr : Nat → Nat → Nat) {K : Nat → Nat → Int} (hI : AI K G V) (hJ : VJ J) (hR : MR Rr) (x1 : Int) (bx1 : 0 ≤ x1 ∧ x1 ≤ 1099) (x2 : Int) (bx2 : 0 ≤ x2 ∧ x2 ≤ 1100) (hle : x1 ≤ x2) (hbd : x2 ≤ 220 * (x1 / 220) + 200) (hT : xTyp (G 11) (220 * (x1 / 220)) x1 x2) : xMi l D (xTY cy) yX12_comesTo cX12_comesTo 8 (some .int) 1 22 0 0 [.ref (ad 0), vI x1, vI x2] (MW cy ad V J Rr) (fun u : Nat → Nat → Int => MW cy ad u J Rr) (fun a (u : Nat → Nat → Int) => AI K G u ∧ FBm 2417851639229258349412352 V u ∧ (f_m_comesTo x1 x2 V J Rr) (a, u)) := by
  refine xMi.mk (lv0 := [(0, .ref (ad 0)), (1, vI x1), (2, vI x2)]) (by decide) rfl (Nat.le_of_ble_eq_true rfl) (fun p e s m below meth c A C hr hnm hAe => ?_)
  have C : xC2 p s m _ meth c D A s.heap 8 cX12_comesTo RX12 (xTY cy) := C
  have hB : FBm 2417851639229258349412352 V V := FBm.rf _ _
  have hF := Imp.of_eq (f_m_comesTo.eq_def x1 x2 V J Rr)
  obtain ⟨hh, hT0, hT2⟩ := hT
  refine x_iconst C.1 (n := 0) dX12_comesTo_0 ?_
  refine x_istore_n C.1 (lv' := [(3, vI 0), (0, .ref (ad 0)), (1, vI x1), (2, vI x2)]) dX12_comesTo_1 (by decide) rfl ?_
  refine x_sipush C.1 (n := 220) dX12_comesTo_2 ?_
  refine x_iload_n C.1 dX12_comesTo_5 2 rfl ?_
  refine x_sipush C.1 (n := 220) dX12_comesTo_6 ?_
  obtain ⟨z1, hz1, bz1⟩ : ∃ z : Int, iDiv x1 220 = z ∧ (0 ≤ z ∧ z ≤ 1099) := ⟨_, rfl, iDiv_n (by omega) (by omega)⟩
  replace hF := hF.to (rdb_e (z := z1) hz1)
  replace hF := hF.fc bz1
  have q1 : z1 = x1 / 220 := hz1.symm.trans (iDiv_p (by omega) (by omega))
  refine x_idiv C.1 (v := z1) hz1 dX12_comesTo_9 (by decide) (by decide) ?_
  refine x_imul C.1 (v := 220 * z1) (by omega) dX12_comesTo_10 ?_
  refine x_istore C.1 (lv' := [(4, vI (220 * z1)), (3, vI 0), (0, .ref (ad 0)), (1, vI x1), (2, vI x2)]) dX12_comesTo_11 (by decide) rfl ?_
  refine x_iload_n C.1 dX12_comesTo_13 3 rfl ?_
  refine x_istore C.1 (lv' := [(5, vI x1), (4, vI (220 * z1)), (3, vI 0), (0, .ref (ad 0)), (1, vI x1), (2, vI x2)]) dX12_comesTo_14 (by decide) rfl ?_
  obtain ⟨bd78, hbd78, hF⟩ := lop3_ex hF
  refine x_loop (I := fun x : Int × Int × (Nat → Nat → Int) => match x with | (z76, z77, V78) => (0 ≤ z76 ∧ z76 ≤ 1100) ∧ (0 ≤ z77 ∧ z77 ≤ 220) ∧ AI K G V78 ∧ FBm 2417851639229258349412352 V V78 ∧ (z77 = hh z76 ∧ x1 ≤ z76 ∧ z76 ≤ x2) ∧ (∃ nf : Nat, (x2 - z76).toNat < nf ∧ Imp (lop3 nf bd78 z76 z77 V78) (f_m_comesTo x1 x2 V J Rr))) (μ := fun x : Int × Int × (Nat → Nat → Int) => match x with | (z76, z77, V78) => (x2 - z76).toNat) (wsf := fun x : Int × Int × (Nat → Nat → Int) => match x with | (z76, z77, V78) => MW cy ad V78 J Rr) (lvf := fun x : Int × Int × (Nat → Nat → Int) => match x with | (z76, z77, V78) => [(5, vI z76), (4, vI (220 * z1)), (3, vI z77), (0, .ref (ad 0)), (1, vI x1), (2, vI x2)]) (fun x hI78x ih78 => ?_) (x1, 0, V) ⟨⟨by omega, by omega⟩, ⟨by decide, by decide⟩, hI, hB, ⟨by omega, by omega, by omega⟩, ⟨_, (Nat.lt_succ_self _), hF⟩⟩ rfl rfl
  obtain ⟨z76, z77, V78⟩ := x
  obtain ⟨bz76, bz77, hI78, hB78, hn, nf78, hn78, hF⟩ := hI78x
  try dsimp only
  obtain ⟨nf78, rfl⟩ : ∃ mm, nf78 = mm + 1 := ⟨nf78 - 1, (Nat.succ_pred_eq_of_pos (Nat.lt_of_le_of_lt (Nat.zero_le _) hn78)).symm⟩
  replace hF := hF.to (lop3_s hbd78)
  refine x_iload C.1 dX12_comesTo_16 0 rfl ?_
  refine x_iload_n C.1 dX12_comesTo_18 5 rfl ?_
  refine x_icmp_ge C.1 (tgt := 233) dX12_comesTo_19 (by decide) (by omega) (by omega) (fun hc79 => ?_) (fun hc79 => ?_)
  · replace hF := hF.to (if_pos hc79)
    refine x_aload_n C.1 dX12_comesTo_233 3 rfl ?_
    refine x_getA C (N := 33) (i := 0) (by decide) rfl vc_X12 wx_X12 25 (by decide) wf_X12_59 (a := 17) rfl dX12_comesTo_234 ?_
    refine x_iconst C.1 (n := 0) dX12_comesTo_237 ?_
    obtain ⟨z80, ez80, bz80⟩ := hI78.rd 17 0 (x := -2147483648) (y := 2147483647) rfl
    replace hF := hF.to (rdb_e (z := z80) ez80)
    refine x_iald C (N := 33) (i := 17) (q := 0) (by decide) rfl (by decide) (by decide) dX12_comesTo_238 (a := z80) ez80 ?_
    exact x_iret (S := (Nat → Nat → Int)) (post := (fun a (u : Nat → Nat → Int) => AI K G u ∧ FBm 2417851639229258349412352 V u ∧ (f_m_comesTo x1 x2 V J Rr) (a, u))) (w1 := (fun u : Nat → Nat → Int => MW cy ad u J Rr)) (a := z80) C hr rfl dX12_comesTo_239 (by omega) V78 rfl ⟨hI78, hB78, hF _ rfl⟩
  · replace hF := hF.to (if_neg hc79)
    refine x_aload_n C.1 dX12_comesTo_22 3 rfl ?_
    refine x_getA C (N := 33) (i := 0) (by decide) rfl vc_X12 wx_X12 19 (by decide) wf_X12_41 (a := 11) rfl dX12_comesTo_23 ?_
    refine x_iload C.1 dX12_comesTo_26 0 rfl ?_
    obtain ⟨z81, ez81, bz81⟩ := hI78.rd 11 z76.toNat (x := -2147483648) (y := 2147483647) rfl
    replace hF := hF.to (rdb_e (z := z81) ez81)
    refine x_iald C (N := 33) (i := 11) (q := z76) (by decide) rfl (by omega) (by decide) dX12_comesTo_28 (a := z81) ez81 ?_
    have hg : G 11 (z76).toNat = z81 := MI.g hI78.1 ez81 rfl
    have hs := hT2 z76 (by omega) (by omega)
    rw [hg] at hs
    have hs0 : 0 ≤ z81 := hs.1
    refine x_ldc C.1 (n := 1048576) wq_X12_170 dX12_comesTo_29 ?_
    obtain ⟨z82, hz82, bz82⟩ : ∃ z : Int, iDiv z81 1048576 = z ∧ (0 ≤ z ∧ z ≤ 2147483647) := ⟨_, rfl, iDiv_n (by omega) (by omega)⟩
    replace hF := hF.to (rdb_e (z := z82) hz82)
    replace hF := hF.fc bz82
    have q82 : z82 = z81 / 1048576 := hz82.symm.trans (iDiv_p (by omega) (by omega))
    refine x_idiv C.1 (v := z82) hz82 dX12_comesTo_31 (by decide) (by decide) ?_
    refine x_istore C.1 (lv' := [(6, vI z82), (5, vI z76), (4, vI (220 * z1)), (3, vI z77), (0, .ref (ad 0)), (1, vI x1), (2, vI x2)]) dX12_comesTo_32 (by decide) rfl ?_
    refine x_aload_n C.1 dX12_comesTo_34 4 rfl ?_
    refine x_getA C (N := 33) (i := 0) (by decide) rfl vc_X12 wx_X12 19 (by decide) wf_X12_41 (a := 11) rfl dX12_comesTo_35 ?_
    refine x_iload C.1 dX12_comesTo_38 1 rfl ?_
    refine x_iald C (N := 33) (i := 11) (q := z76) (by decide) rfl (by omega) (by decide) dX12_comesTo_40 (a := z81) ez81 ?_
    refine x_ldc C.1 (n := 1048576) wq_X12_170 dX12_comesTo_41 ?_
    obtain ⟨z83, hz83, bz83⟩ : ∃ z : Int, iRem z81 1048576 = z ∧ (0 ≤ z ∧ z ≤ 1048575) := ⟨_, rfl, iRem_n (by omega) (by omega)⟩
    replace hF := hF.to (rdb_e (z := z83) hz83)
    replace hF := hF.fc bz83
    have q83 : z83 = z81 % 1048576 := hz83.symm.trans (iRem_p (by omega) (by omega))
    refine x_irem C.1 (v := z83) hz83 dX12_comesTo_43 (by decide) (by decide) ?_
    refine x_istore C.1 (lv' := [(7, vI z83), (6, vI z82), (5, vI z76), (4, vI (220 * z1)), (3, vI z77), (0, .ref (ad 0)), (1, vI x1), (2, vI x2)]) dX12_comesTo_44 (by decide) rfl ?_
    unfold xStp at hs
    rw [← q82, ← q83, ← q1] at hs
    obtain ⟨-, hs2, hs3, hs4⟩ := hs
    refine x_iload C.1 dX12_comesTo_46 2 rfl ?_
    refine x_iconst C.1 (n := 1) dX12_comesTo_48 ?_
    refine x_iadd C.1 (v := z76 + 1) (by omega) dX12_comesTo_49 ?_
    refine x_istore C.1 (lv' := [(5, vI (z76 + 1)), (7, vI z83), (6, vI z82), (4, vI (220 * z1)), (3, vI z77), (0, .ref (ad 0)), (1, vI x1), (2, vI x2)]) dX12_comesTo_50 (by decide) rfl ?_
    refine x_iload C.1 dX12_comesTo_52 2 rfl ?_
    refine x_if_eq C.1 (tgt := 63) dX12_comesTo_54 (by decide) (by omega) (fun hc84 => ?_) (fun hc84 => ?_)
    · replace hF := hF.to (if_pos hc84)
      refine x_aload_n C.1 dX12_comesTo_63 5 rfl ?_
      refine x_getA C (N := 33) (i := 0) (by decide) rfl vc_X12 wx_X12 25 (by decide) wf_X12_59 (a := 17) rfl dX12_comesTo_64 ?_
      refine x_iload_n C.1 dX12_comesTo_67 4 rfl ?_
      refine x_iload C.1 dX12_comesTo_68 2 rfl ?_
      refine x_if_ne_f C.1 (tgt := 78) dX12_comesTo_70 (by decide) (by omega) (by omega) ?_
      refine x_iload C.1 dX12_comesTo_73 1 rfl ?_
      refine x_goto C.1 (tgt := 85) dX12_comesTo_75 (by decide) ?_
      refine x_iast C (N := 33) (i := 17) (q := z77) (a := z83) (by decide) rfl (by omega) (by decide) dX12_comesTo_85 ?_
      refine x_gV ?_
      intro V85 hV85
      have hI85 : AI K G V85 := hI78.up hV85 rfl (by omega) rfl (Or.inl (by decide))
      have hB85 := hB78.up hV85 (by rw [mkey_r (by decide)]; rfl)
      replace hF := hF.to (rdb_e (z := V85) hV85.symm)
      refine x_iload_n C.1 dX12_comesTo_86 4 rfl ?_
      refine x_iconst C.1 (n := 1) dX12_comesTo_87 ?_
      refine x_iadd C.1 (v := z77 + 1) (by omega) dX12_comesTo_88 ?_
      refine x_istore_n C.1 (lv' := [(3, vI (z77 + 1)), (5, vI (z76 + 1)), (7, vI z83), (6, vI z82), (4, vI (220 * z1)), (0, .ref (ad 0)), (1, vI x1), (2, vI x2)]) dX12_comesTo_89 (by decide) rfl ?_
      refine x_goto C.1 (tgt := 230) dX12_comesTo_90 (by decide) ?_
      refine x_goto C.1 (tgt := 16) dX12_comesTo_230 (by decide) ?_
      refine x_lv [(5, vI (z76 + 1)), (4, vI (220 * z1)), (3, vI (z77 + 1)), (0, .ref (ad 0)), (1, vI x1), (2, vI x2)] [1, 4, 0, 5, 6, 7] rfl ?_
      have hmu78 : (x2 - (z76 + 1)).toNat < (x2 - z76).toNat := (by omega)
      exact ih78 (z76 + 1, z77 + 1, V85) ⟨⟨by omega, by omega⟩, ⟨by omega, by omega⟩, hI85, hB85, ⟨by omega, by omega, by omega⟩, ⟨nf78, Nat.lt_of_lt_of_le hmu78 (Nat.le_of_lt_succ hn78), hF⟩⟩ hmu78
    · replace hF := hF.to (if_neg hc84)
      refine x_iload C.1 dX12_comesTo_57 2 rfl ?_
      refine x_iconst C.1 (n := 1) dX12_comesTo_59 ?_
      refine x_icmp_ne C.1 (tgt := 93) dX12_comesTo_60 (by decide) (by omega) (by decide) (fun hc86 => ?_) (fun hc86 => ?_)
      · replace hF := hF.to (if_pos hc86)
        refine x_iload C.1 dX12_comesTo_93 2 rfl ?_
        refine x_bipush C.1 (n := 10) dX12_comesTo_95 ?_
        refine x_icmp_ne C.1 (tgt := 121) dX12_comesTo_97 (by decide) (by omega) (by decide) (fun hc87 => ?_) (fun hc87 => ?_)
        · replace hF := hF.to (if_pos hc87)
          refine x_iload C.1 dX12_comesTo_121 2 rfl ?_
          refine x_bipush C.1 (n := 11) dX12_comesTo_123 ?_
          refine x_icmp_eq C.1 (tgt := 135) dX12_comesTo_125 (by decide) (by omega) (by decide) (fun hc88 => ?_) (fun hc88 => ?_)
          · replace hF := hF.to (if_pos hc88)
            refine x_aload_n C.1 dX12_comesTo_135 5 rfl ?_
            refine x_getA C (N := 33) (i := 0) (by decide) rfl vc_X12 wx_X12 25 (by decide) wf_X12_59 (a := 17) rfl dX12_comesTo_136 ?_
            refine x_iload_n C.1 dX12_comesTo_139 4 rfl ?_
            refine x_iconst C.1 (n := 1) dX12_comesTo_140 ?_
            refine x_isub C.1 (v := z77 - 1) (by omega) dX12_comesTo_141 ?_
            obtain ⟨z89, ez89, bz89⟩ := hI78.rd 17 ((z77 - 1).toNat) (x := -2147483648) (y := 2147483647) rfl
            replace hF := hF.to (rdb_e (z := z89) ez89)
            refine x_iald C (N := 33) (i := 17) (q := z77 - 1) (by decide) rfl (by omega) (by decide) dX12_comesTo_142 (a := z89) ez89 ?_
            refine x_iload C.1 dX12_comesTo_143 2 rfl ?_
            refine x_bipush C.1 (n := 12) dX12_comesTo_145 ?_
            refine x_icmp_ne_t C.1 (tgt := 154) dX12_comesTo_147 (by decide) (by omega) (by decide) (by omega) ?_
            refine x_iconst C.1 (n := 0) dX12_comesTo_154 ?_
            refine x_icmp_ne C.1 (tgt := 168) dX12_comesTo_155 (by decide) (by omega) (by decide) (fun hc90 => ?_) (fun hc90 => ?_)
            · replace hF := hF.to (if_pos hc90)
              refine x_iload_n C.1 dX12_comesTo_168 4 rfl ?_
              refine x_iconst C.1 (n := 1) dX12_comesTo_169 ?_
              refine x_isub C.1 (v := z77 - 1) (by omega) dX12_comesTo_170 ?_
              refine x_istore_n C.1 (lv' := [(3, vI (z77 - 1)), (5, vI (z76 + 1)), (7, vI z83), (6, vI z82), (4, vI (220 * z1)), (0, .ref (ad 0)), (1, vI x1), (2, vI x2)]) dX12_comesTo_171 (by decide) rfl ?_
              refine x_goto C.1 (tgt := 230) dX12_comesTo_172 (by decide) ?_
              refine x_goto C.1 (tgt := 16) dX12_comesTo_230 (by decide) ?_
              refine x_lv [(5, vI (z76 + 1)), (4, vI (220 * z1)), (3, vI (z77 - 1)), (0, .ref (ad 0)), (1, vI x1), (2, vI x2)] [1, 4, 0, 5, 6, 7] rfl ?_
              have hmu78 : (x2 - (z76 + 1)).toNat < (x2 - z76).toNat := (by omega)
              exact ih78 (z76 + 1, z77 - 1, V78) ⟨⟨by omega, by omega⟩, ⟨by omega, by omega⟩, hI78, hB78, ⟨by omega, by omega, by omega⟩, ⟨nf78, Nat.lt_of_lt_of_le hmu78 (Nat.le_of_lt_succ hn78), hF⟩⟩ hmu78
            · replace hF := hF.to (if_neg (fun hh => hh hc90))
              refine x_iload C.1 dX12_comesTo_158 3 rfl ?_
              refine x_iload C.1 dX12_comesTo_160 1 rfl ?_
              refine x_iadd C.1 (v := 220 * z1 + z83) (by omega) dX12_comesTo_162 ?_
              refine x_istore C.1 (lv' := [(5, vI (220 * z1 + z83)), (7, vI z83), (6, vI z82), (4, vI (220 * z1)), (3, vI z77), (0, .ref (ad 0)), (1, vI x1), (2, vI x2)]) dX12_comesTo_163 (by decide) rfl ?_
              refine x_goto C.1 (tgt := 230) dX12_comesTo_165 (by decide) ?_
              refine x_goto C.1 (tgt := 16) dX12_comesTo_230 (by decide) ?_
              refine x_lv [(5, vI (220 * z1 + z83)), (4, vI (220 * z1)), (3, vI z77), (0, .ref (ad 0)), (1, vI x1), (2, vI x2)] [0, 3, 4, 5, 6, 7] rfl ?_
              have hmu78 : (x2 - (220 * z1 + z83)).toNat < (x2 - z76).toNat := (by omega)
              exact ih78 (220 * z1 + z83, z77, V78) ⟨⟨by omega, by omega⟩, ⟨by omega, by omega⟩, hI78, hB78, ⟨by omega, by omega, by omega⟩, ⟨nf78, Nat.lt_of_lt_of_le hmu78 (Nat.le_of_lt_succ hn78), hF⟩⟩ hmu78
          · replace hF := hF.to (if_neg hc88)
            refine x_iload C.1 dX12_comesTo_128 2 rfl ?_
            refine x_bipush C.1 (n := 12) dX12_comesTo_130 ?_
            refine x_icmp_ne C.1 (tgt := 175) dX12_comesTo_132 (by decide) (by omega) (by decide) (fun hc91 => ?_) (fun hc91 => ?_)
            · replace hF := hF.to (if_pos hc91)
              refine x_iload_n C.1 dX12_comesTo_175 4 rfl ?_
              refine x_iconst C.1 (n := 1) dX12_comesTo_176 ?_
              refine x_isub C.1 (v := z77 - 1) (by omega) dX12_comesTo_177 ?_
              refine x_istore_n C.1 (lv' := [(3, vI (z77 - 1)), (5, vI (z76 + 1)), (7, vI z83), (6, vI z82), (4, vI (220 * z1)), (0, .ref (ad 0)), (1, vI x1), (2, vI x2)]) dX12_comesTo_178 (by decide) rfl ?_
              refine x_iload C.1 dX12_comesTo_179 3 rfl ?_
              refine x_iconst C.1 (n := 5) dX12_comesTo_181 ?_
              refine x_icmp_eq C.1 (tgt := 192) dX12_comesTo_182 (by decide) (by omega) (by decide) (fun hc92 => ?_) (fun hc92 => ?_)
              · replace hF := hF.to (if_pos hc92)
                refine x_aload_n C.1 dX12_comesTo_192 5 rfl ?_
                refine x_getA C (N := 33) (i := 0) (by decide) rfl vc_X12 wx_X12 25 (by decide) wf_X12_59 (a := 17) rfl dX12_comesTo_193 ?_
                refine x_iload_n C.1 dX12_comesTo_196 0 rfl ?_
                obtain ⟨z93, ez93, bz93⟩ := hI78.rd 17 ((z77 - 1).toNat) (x := -2147483648) (y := 2147483647) rfl
                replace hF := hF.to (rdb_e (z := z93) ez93)
                refine x_iald C (N := 33) (i := 17) (q := z77 - 1) (by decide) rfl (by omega) (by decide) dX12_comesTo_197 (a := z93) ez93 ?_
                refine x_if_ne C.1 (tgt := 203) dX12_comesTo_198 (by decide) (by omega) (fun hc94 => ?_) (fun hc94 => ?_)
                · replace hF := hF.to (if_pos hc94)
                  refine x_aload_n C.1 dX12_comesTo_203 5 rfl ?_
                  refine x_getA C (N := 33) (i := 0) (by decide) rfl vc_X12 wx_X12 25 (by decide) wf_X12_59 (a := 17) rfl dX12_comesTo_204 ?_
                  refine x_iload_n C.1 dX12_comesTo_207 0 rfl ?_
                  refine x_iconst C.1 (n := 1) dX12_comesTo_208 ?_
                  refine x_isub C.1 (v := z77 - 2) (by omega) dX12_comesTo_209 ?_
                  refine x_iload C.1 dX12_comesTo_210 3 rfl ?_
                  refine x_aload_n C.1 dX12_comesTo_212 5 rfl ?_
                  refine x_getA C (N := 33) (i := 0) (by decide) rfl vc_X12 wx_X12 25 (by decide) wf_X12_59 (a := 17) rfl dX12_comesTo_213 ?_
                  refine x_iload_n C.1 dX12_comesTo_216 0 rfl ?_
                  refine x_iconst C.1 (n := 1) dX12_comesTo_217 ?_
                  refine x_isub C.1 (v := z77 - 2) (by omega) dX12_comesTo_218 ?_
                  obtain ⟨z95, ez95, bz95⟩ := hI78.rd 17 ((z77 - 2).toNat) (x := -2147483648) (y := 2147483647) rfl
                  replace hF := hF.to (rdb_e (z := z95) ez95)
                  refine x_iald C (N := 33) (i := 17) (q := z77 - 2) (by decide) rfl (by omega) (by decide) dX12_comesTo_219 (a := z95) ez95 ?_
                  refine x_aload_n C.1 dX12_comesTo_220 5 rfl ?_
                  refine x_getA C (N := 33) (i := 0) (by decide) rfl vc_X12 wx_X12 25 (by decide) wf_X12_59 (a := 17) rfl dX12_comesTo_221 ?_
                  refine x_iload_n C.1 dX12_comesTo_224 0 rfl ?_
                  refine x_iald C (N := 33) (i := 17) (q := z77 - 1) (by decide) rfl (by omega) (by decide) dX12_comesTo_225 (a := z93) ez93 ?_
                  refine x_callSi C (As := [vI z82, vI z95, vI z93]) (rest := [vI (z77 - 2), .ref (ad 17)]) (m_reckon l D cy z82 ⟨by omega, by omega⟩ z95 ⟨by omega, by omega⟩ z93 ⟨by omega, by omega⟩ (by omega)) (l1 := []) (l2 := _) rfl (w2 := fun _ => _) (fun _ => rfl) rfl wm_yX12_reckon wn_X12 wl_X12_240 wi_yX12_reckon hd_yX12_reckon rfl ⟨Nat.le_of_ble_eq_true rfl, Nat.le_of_ble_eq_true rfl⟩ (Nat.le_of_ble_eq_true rfl) ⟨Nat.le_of_ble_eq_true rfl, Nat.le_of_ble_eq_true rfl⟩ dX12_comesTo_226 (fun z96 u96 bz96 h96 => ?_)
                  have hFc96 := h96
                  replace hF := calR_i hF hFc96
                  refine x_iast C (N := 33) (i := 17) (q := z77 - 2) (a := z96) (by decide) rfl (by omega) (by decide) dX12_comesTo_229 ?_
                  refine x_gV ?_
                  intro V97 hV97
                  have hI97 : AI K G V97 := hI78.up hV97 rfl (by omega) rfl (Or.inl (by decide))
                  have hB97 := hB78.up hV97 (by rw [mkey_r (by decide)]; rfl)
                  replace hF := hF.to (rdb_e (z := V97) hV97.symm)
                  refine x_goto C.1 (tgt := 16) dX12_comesTo_230 (by decide) ?_
                  refine x_lv [(5, vI (z76 + 1)), (4, vI (220 * z1)), (3, vI (z77 - 1)), (0, .ref (ad 0)), (1, vI x1), (2, vI x2)] [1, 4, 0, 5, 6, 7] rfl ?_
                  have hmu78 : (x2 - (z76 + 1)).toNat < (x2 - z76).toNat := (by omega)
                  exact ih78 (z76 + 1, z77 - 1, V97) ⟨⟨by omega, by omega⟩, ⟨by omega, by omega⟩, hI97, hB97, ⟨by omega, by omega, by omega⟩, ⟨nf78, Nat.lt_of_lt_of_le hmu78 (Nat.le_of_lt_succ hn78), hF⟩⟩ hmu78
                · replace hF := hF.to (if_neg (fun hh => hh hc94))
                  refine x_iconst C.1 (n := 0) dX12_comesTo_201 ?_
                  exact x_iret (S := (Nat → Nat → Int)) (post := (fun a (u : Nat → Nat → Int) => AI K G u ∧ FBm 2417851639229258349412352 V u ∧ (f_m_comesTo x1 x2 V J Rr) (a, u))) (w1 := (fun u : Nat → Nat → Int => MW cy ad u J Rr)) (a := 0) C hr rfl dX12_comesTo_202 (by decide) V78 rfl ⟨hI78, hB78, hF _ rfl⟩
              · replace hF := hF.to (if_neg hc92)
                refine x_iload C.1 dX12_comesTo_185 3 rfl ?_
                refine x_bipush C.1 (n := 6) dX12_comesTo_187 ?_
                refine x_icmp_ne C.1 (tgt := 203) dX12_comesTo_189 (by decide) (by omega) (by decide) (fun hc98 => ?_) (fun hc98 => ?_)
                · replace hF := hF.to (if_pos hc98)
                  refine x_aload_n C.1 dX12_comesTo_203 5 rfl ?_
                  refine x_getA C (N := 33) (i := 0) (by decide) rfl vc_X12 wx_X12 25 (by decide) wf_X12_59 (a := 17) rfl dX12_comesTo_204 ?_
                  refine x_iload_n C.1 dX12_comesTo_207 0 rfl ?_
                  refine x_iconst C.1 (n := 1) dX12_comesTo_208 ?_
                  refine x_isub C.1 (v := z77 - 2) (by omega) dX12_comesTo_209 ?_
                  refine x_iload C.1 dX12_comesTo_210 3 rfl ?_
                  refine x_aload_n C.1 dX12_comesTo_212 5 rfl ?_
                  refine x_getA C (N := 33) (i := 0) (by decide) rfl vc_X12 wx_X12 25 (by decide) wf_X12_59 (a := 17) rfl dX12_comesTo_213 ?_
                  refine x_iload_n C.1 dX12_comesTo_216 0 rfl ?_
                  refine x_iconst C.1 (n := 1) dX12_comesTo_217 ?_
                  refine x_isub C.1 (v := z77 - 2) (by omega) dX12_comesTo_218 ?_
                  obtain ⟨z99, ez99, bz99⟩ := hI78.rd 17 ((z77 - 2).toNat) (x := -2147483648) (y := 2147483647) rfl
                  replace hF := hF.to (rdb_e (z := z99) ez99)
                  refine x_iald C (N := 33) (i := 17) (q := z77 - 2) (by decide) rfl (by omega) (by decide) dX12_comesTo_219 (a := z99) ez99 ?_
                  refine x_aload_n C.1 dX12_comesTo_220 5 rfl ?_
                  refine x_getA C (N := 33) (i := 0) (by decide) rfl vc_X12 wx_X12 25 (by decide) wf_X12_59 (a := 17) rfl dX12_comesTo_221 ?_
                  refine x_iload_n C.1 dX12_comesTo_224 0 rfl ?_
                  obtain ⟨z100, ez100, bz100⟩ := hI78.rd 17 ((z77 - 1).toNat) (x := -2147483648) (y := 2147483647) rfl
                  replace hF := hF.to (rdb_e (z := z100) ez100)
                  refine x_iald C (N := 33) (i := 17) (q := z77 - 1) (by decide) rfl (by omega) (by decide) dX12_comesTo_225 (a := z100) ez100 ?_
                  refine x_callSi C (As := [vI z82, vI z99, vI z100]) (rest := [vI (z77 - 2), .ref (ad 17)]) (m_reckon l D cy z82 ⟨by omega, by omega⟩ z99 ⟨by omega, by omega⟩ z100 ⟨by omega, by omega⟩ (by omega)) (l1 := []) (l2 := _) rfl (w2 := fun _ => _) (fun _ => rfl) rfl wm_yX12_reckon wn_X12 wl_X12_240 wi_yX12_reckon hd_yX12_reckon rfl ⟨Nat.le_of_ble_eq_true rfl, Nat.le_of_ble_eq_true rfl⟩ (Nat.le_of_ble_eq_true rfl) ⟨Nat.le_of_ble_eq_true rfl, Nat.le_of_ble_eq_true rfl⟩ dX12_comesTo_226 (fun z101 u101 bz101 h101 => ?_)
                  have hFc101 := h101
                  replace hF := calR_i hF hFc101
                  refine x_iast C (N := 33) (i := 17) (q := z77 - 2) (a := z101) (by decide) rfl (by omega) (by decide) dX12_comesTo_229 ?_
                  refine x_gV ?_
                  intro V102 hV102
                  have hI102 : AI K G V102 := hI78.up hV102 rfl (by omega) rfl (Or.inl (by decide))
                  have hB102 := hB78.up hV102 (by rw [mkey_r (by decide)]; rfl)
                  replace hF := hF.to (rdb_e (z := V102) hV102.symm)
                  refine x_goto C.1 (tgt := 16) dX12_comesTo_230 (by decide) ?_
                  refine x_lv [(5, vI (z76 + 1)), (4, vI (220 * z1)), (3, vI (z77 - 1)), (0, .ref (ad 0)), (1, vI x1), (2, vI x2)] [1, 4, 0, 5, 6, 7] rfl ?_
                  have hmu78 : (x2 - (z76 + 1)).toNat < (x2 - z76).toNat := (by omega)
                  exact ih78 (z76 + 1, z77 - 1, V102) ⟨⟨by omega, by omega⟩, ⟨by omega, by omega⟩, hI102, hB102, ⟨by omega, by omega, by omega⟩, ⟨nf78, Nat.lt_of_lt_of_le hmu78 (Nat.le_of_lt_succ hn78), hF⟩⟩ hmu78
                · replace hF := hF.to (if_neg (fun hh => hh hc98))
                  refine x_aload_n C.1 dX12_comesTo_192 5 rfl ?_
                  refine x_getA C (N := 33) (i := 0) (by decide) rfl vc_X12 wx_X12 25 (by decide) wf_X12_59 (a := 17) rfl dX12_comesTo_193 ?_
                  refine x_iload_n C.1 dX12_comesTo_196 0 rfl ?_
                  obtain ⟨z103, ez103, bz103⟩ := hI78.rd 17 ((z77 - 1).toNat) (x := -2147483648) (y := 2147483647) rfl
                  replace hF := hF.to (rdb_e (z := z103) ez103)
                  refine x_iald C (N := 33) (i := 17) (q := z77 - 1) (by decide) rfl (by omega) (by decide) dX12_comesTo_197 (a := z103) ez103 ?_
                  refine x_if_ne C.1 (tgt := 203) dX12_comesTo_198 (by decide) (by omega) (fun hc104 => ?_) (fun hc104 => ?_)
                  · replace hF := hF.to (if_pos hc104)
                    refine x_aload_n C.1 dX12_comesTo_203 5 rfl ?_
                    refine x_getA C (N := 33) (i := 0) (by decide) rfl vc_X12 wx_X12 25 (by decide) wf_X12_59 (a := 17) rfl dX12_comesTo_204 ?_
                    refine x_iload_n C.1 dX12_comesTo_207 0 rfl ?_
                    refine x_iconst C.1 (n := 1) dX12_comesTo_208 ?_
                    refine x_isub C.1 (v := z77 - 2) (by omega) dX12_comesTo_209 ?_
                    refine x_iload C.1 dX12_comesTo_210 3 rfl ?_
                    refine x_aload_n C.1 dX12_comesTo_212 5 rfl ?_
                    refine x_getA C (N := 33) (i := 0) (by decide) rfl vc_X12 wx_X12 25 (by decide) wf_X12_59 (a := 17) rfl dX12_comesTo_213 ?_
                    refine x_iload_n C.1 dX12_comesTo_216 0 rfl ?_
                    refine x_iconst C.1 (n := 1) dX12_comesTo_217 ?_
                    refine x_isub C.1 (v := z77 - 2) (by omega) dX12_comesTo_218 ?_
                    obtain ⟨z105, ez105, bz105⟩ := hI78.rd 17 ((z77 - 2).toNat) (x := -2147483648) (y := 2147483647) rfl
                    replace hF := hF.to (rdb_e (z := z105) ez105)
                    refine x_iald C (N := 33) (i := 17) (q := z77 - 2) (by decide) rfl (by omega) (by decide) dX12_comesTo_219 (a := z105) ez105 ?_
                    refine x_aload_n C.1 dX12_comesTo_220 5 rfl ?_
                    refine x_getA C (N := 33) (i := 0) (by decide) rfl vc_X12 wx_X12 25 (by decide) wf_X12_59 (a := 17) rfl dX12_comesTo_221 ?_
                    refine x_iload_n C.1 dX12_comesTo_224 0 rfl ?_
                    refine x_iald C (N := 33) (i := 17) (q := z77 - 1) (by decide) rfl (by omega) (by decide) dX12_comesTo_225 (a := z103) ez103 ?_
                    refine x_callSi C (As := [vI z82, vI z105, vI z103]) (rest := [vI (z77 - 2), .ref (ad 17)]) (m_reckon l D cy z82 ⟨by omega, by omega⟩ z105 ⟨by omega, by omega⟩ z103 ⟨by omega, by omega⟩ (by omega)) (l1 := []) (l2 := _) rfl (w2 := fun _ => _) (fun _ => rfl) rfl wm_yX12_reckon wn_X12 wl_X12_240 wi_yX12_reckon hd_yX12_reckon rfl ⟨Nat.le_of_ble_eq_true rfl, Nat.le_of_ble_eq_true rfl⟩ (Nat.le_of_ble_eq_true rfl) ⟨Nat.le_of_ble_eq_true rfl, Nat.le_of_ble_eq_true rfl⟩ dX12_comesTo_226 (fun z106 u106 bz106 h106 => ?_)
                    have hFc106 := h106
                    replace hF := calR_i hF hFc106
                    refine x_iast C (N := 33) (i := 17) (q := z77 - 2) (a := z106) (by decide) rfl (by omega) (by decide) dX12_comesTo_229 ?_
                    refine x_gV ?_
                    intro V107 hV107
                    have hI107 : AI K G V107 := hI78.up hV107 rfl (by omega) rfl (Or.inl (by decide))
                    have hB107 := hB78.up hV107 (by rw [mkey_r (by decide)]; rfl)
                    replace hF := hF.to (rdb_e (z := V107) hV107.symm)
                    refine x_goto C.1 (tgt := 16) dX12_comesTo_230 (by decide) ?_
                    refine x_lv [(5, vI (z76 + 1)), (4, vI (220 * z1)), (3, vI (z77 - 1)), (0, .ref (ad 0)), (1, vI x1), (2, vI x2)] [1, 4, 0, 5, 6, 7] rfl ?_
                    have hmu78 : (x2 - (z76 + 1)).toNat < (x2 - z76).toNat := (by omega)
                    exact ih78 (z76 + 1, z77 - 1, V107) ⟨⟨by omega, by omega⟩, ⟨by omega, by omega⟩, hI107, hB107, ⟨by omega, by omega, by omega⟩, ⟨nf78, Nat.lt_of_lt_of_le hmu78 (Nat.le_of_lt_succ hn78), hF⟩⟩ hmu78
                  · replace hF := hF.to (if_neg (fun hh => hh hc104))
                    refine x_iconst C.1 (n := 0) dX12_comesTo_201 ?_
                    exact x_iret (S := (Nat → Nat → Int)) (post := (fun a (u : Nat → Nat → Int) => AI K G u ∧ FBm 2417851639229258349412352 V u ∧ (f_m_comesTo x1 x2 V J Rr) (a, u))) (w1 := (fun u : Nat → Nat → Int => MW cy ad u J Rr)) (a := 0) C hr rfl dX12_comesTo_202 (by decide) V78 rfl ⟨hI78, hB78, hF _ rfl⟩
            · replace hF := hF.to (if_neg (fun hh => hh hc91))
              refine x_aload_n C.1 dX12_comesTo_135 5 rfl ?_
              refine x_getA C (N := 33) (i := 0) (by decide) rfl vc_X12 wx_X12 25 (by decide) wf_X12_59 (a := 17) rfl dX12_comesTo_136 ?_
              refine x_iload_n C.1 dX12_comesTo_139 4 rfl ?_
              refine x_iconst C.1 (n := 1) dX12_comesTo_140 ?_
              refine x_isub C.1 (v := z77 - 1) (by omega) dX12_comesTo_141 ?_
              obtain ⟨z108, ez108, bz108⟩ := hI78.rd 17 ((z77 - 1).toNat) (x := -2147483648) (y := 2147483647) rfl
              replace hF := hF.to (rdb_e (z := z108) ez108)
              refine x_iald C (N := 33) (i := 17) (q := z77 - 1) (by decide) rfl (by omega) (by decide) dX12_comesTo_142 (a := z108) ez108 ?_
              refine x_iload C.1 dX12_comesTo_143 2 rfl ?_
              refine x_bipush C.1 (n := 12) dX12_comesTo_145 ?_
              refine x_icmp_ne_f C.1 (tgt := 154) dX12_comesTo_147 (by decide) (by omega) (by decide) (by omega) ?_
              refine x_iconst C.1 (n := 1) dX12_comesTo_150 ?_
              refine x_goto C.1 (tgt := 155) dX12_comesTo_151 (by decide) ?_
              refine x_icmp_ne C.1 (tgt := 168) dX12_comesTo_155 (by decide) (by omega) (by decide) (fun hc109 => ?_) (fun hc109 => ?_)
              · replace hF := hF.to (if_pos hc109)
                refine x_iload_n C.1 dX12_comesTo_168 4 rfl ?_
                refine x_iconst C.1 (n := 1) dX12_comesTo_169 ?_
                refine x_isub C.1 (v := z77 - 1) (by omega) dX12_comesTo_170 ?_
                refine x_istore_n C.1 (lv' := [(3, vI (z77 - 1)), (5, vI (z76 + 1)), (7, vI z83), (6, vI z82), (4, vI (220 * z1)), (0, .ref (ad 0)), (1, vI x1), (2, vI x2)]) dX12_comesTo_171 (by decide) rfl ?_
                refine x_goto C.1 (tgt := 230) dX12_comesTo_172 (by decide) ?_
                refine x_goto C.1 (tgt := 16) dX12_comesTo_230 (by decide) ?_
                refine x_lv [(5, vI (z76 + 1)), (4, vI (220 * z1)), (3, vI (z77 - 1)), (0, .ref (ad 0)), (1, vI x1), (2, vI x2)] [1, 4, 0, 5, 6, 7] rfl ?_
                have hmu78 : (x2 - (z76 + 1)).toNat < (x2 - z76).toNat := (by omega)
                exact ih78 (z76 + 1, z77 - 1, V78) ⟨⟨by omega, by omega⟩, ⟨by omega, by omega⟩, hI78, hB78, ⟨by omega, by omega, by omega⟩, ⟨nf78, Nat.lt_of_lt_of_le hmu78 (Nat.le_of_lt_succ hn78), hF⟩⟩ hmu78
              · replace hF := hF.to (if_neg (fun hh => hh hc109))
                refine x_iload C.1 dX12_comesTo_158 3 rfl ?_
                refine x_iload C.1 dX12_comesTo_160 1 rfl ?_
                refine x_iadd C.1 (v := 220 * z1 + z83) (by omega) dX12_comesTo_162 ?_
                refine x_istore C.1 (lv' := [(5, vI (220 * z1 + z83)), (7, vI z83), (6, vI z82), (4, vI (220 * z1)), (3, vI z77), (0, .ref (ad 0)), (1, vI x1), (2, vI x2)]) dX12_comesTo_163 (by decide) rfl ?_
                refine x_goto C.1 (tgt := 230) dX12_comesTo_165 (by decide) ?_
                refine x_goto C.1 (tgt := 16) dX12_comesTo_230 (by decide) ?_
                refine x_lv [(5, vI (220 * z1 + z83)), (4, vI (220 * z1)), (3, vI z77), (0, .ref (ad 0)), (1, vI x1), (2, vI x2)] [0, 3, 4, 5, 6, 7] rfl ?_
                have hmu78 : (x2 - (220 * z1 + z83)).toNat < (x2 - z76).toNat := (by omega)
                exact ih78 (220 * z1 + z83, z77, V78) ⟨⟨by omega, by omega⟩, ⟨by omega, by omega⟩, hI78, hB78, ⟨by omega, by omega, by omega⟩, ⟨nf78, Nat.lt_of_lt_of_le hmu78 (Nat.le_of_lt_succ hn78), hF⟩⟩ hmu78
        · replace hF := hF.to (if_neg (fun hh => hh hc87))
          refine x_aload_n C.1 dX12_comesTo_100 5 rfl ?_
          refine x_getA C (N := 33) (i := 0) (by decide) rfl vc_X12 wx_X12 25 (by decide) wf_X12_59 (a := 17) rfl dX12_comesTo_101 ?_
          refine x_iload_n C.1 dX12_comesTo_104 4 rfl ?_
          refine x_iconst C.1 (n := 1) dX12_comesTo_105 ?_
          refine x_isub C.1 (v := z77 - 1) (by omega) dX12_comesTo_106 ?_
          refine x_iconst C.1 (n := 1) dX12_comesTo_107 ?_
          refine x_aload_n C.1 dX12_comesTo_108 5 rfl ?_
          refine x_getA C (N := 33) (i := 0) (by decide) rfl vc_X12 wx_X12 25 (by decide) wf_X12_59 (a := 17) rfl dX12_comesTo_109 ?_
          refine x_iload_n C.1 dX12_comesTo_112 4 rfl ?_
          refine x_iconst C.1 (n := 1) dX12_comesTo_113 ?_
          refine x_isub C.1 (v := z77 - 1) (by omega) dX12_comesTo_114 ?_
          obtain ⟨z110, ez110, bz110⟩ := hI78.rd 17 ((z77 - 1).toNat) (x := -2147483648) (y := 2147483647) rfl
          replace hF := hF.to (rdb_e (z := z110) ez110)
          refine x_iald C (N := 33) (i := 17) (q := z77 - 1) (by decide) rfl (by omega) (by decide) dX12_comesTo_115 (a := z110) ez110 ?_
          refine x_isub C.1 (v := -z110 + 1) (by omega) dX12_comesTo_116 ?_
          refine x_wrapg ?_
          intro z111 bz111 ew111
          replace hF := hF.to (rdb_e (z := z111) ew111.symm)
          refine x_iast C (N := 33) (i := 17) (q := z77 - 1) (a := z111) (by decide) rfl (by omega) (by decide) dX12_comesTo_117 ?_
          refine x_gV ?_
          intro V112 hV112
          have hI112 : AI K G V112 := hI78.up hV112 rfl (by omega) rfl (Or.inl (by decide))
          have hB112 := hB78.up hV112 (by rw [mkey_r (by decide)]; rfl)
          replace hF := hF.to (rdb_e (z := V112) hV112.symm)
          refine x_goto C.1 (tgt := 230) dX12_comesTo_118 (by decide) ?_
          refine x_goto C.1 (tgt := 16) dX12_comesTo_230 (by decide) ?_
          refine x_lv [(5, vI (z76 + 1)), (4, vI (220 * z1)), (3, vI z77), (0, .ref (ad 0)), (1, vI x1), (2, vI x2)] [0, 3, 4, 5, 6, 7] rfl ?_
          have hmu78 : (x2 - (z76 + 1)).toNat < (x2 - z76).toNat := (by omega)
          exact ih78 (z76 + 1, z77, V112) ⟨⟨by omega, by omega⟩, ⟨by omega, by omega⟩, hI112, hB112, ⟨by omega, by omega, by omega⟩, ⟨nf78, Nat.lt_of_lt_of_le hmu78 (Nat.le_of_lt_succ hn78), hF⟩⟩ hmu78
      · replace hF := hF.to (if_neg (fun hh => hh hc86))
        refine x_aload_n C.1 dX12_comesTo_63 5 rfl ?_
        refine x_getA C (N := 33) (i := 0) (by decide) rfl vc_X12 wx_X12 25 (by decide) wf_X12_59 (a := 17) rfl dX12_comesTo_64 ?_
        refine x_iload_n C.1 dX12_comesTo_67 4 rfl ?_
        refine x_iload C.1 dX12_comesTo_68 2 rfl ?_
        refine x_if_ne_t C.1 (tgt := 78) dX12_comesTo_70 (by decide) (by omega) (by omega) ?_
        refine x_aload_n C.1 dX12_comesTo_78 5 rfl ?_
        refine x_getA C (N := 33) (i := 0) (by decide) rfl vc_X12 wx_X12 26 (by decide) wf_X12_62 (a := 18) rfl dX12_comesTo_79 ?_
        refine x_iload C.1 dX12_comesTo_82 1 rfl ?_
        obtain ⟨z113, ez113, bz113⟩ := hI78.rd 18 z83.toNat (x := -2147483648) (y := 2147483647) rfl
        replace hF := hF.to (rdb_e (z := z113) ez113)
        refine x_iald C (N := 33) (i := 18) (q := z83) (by decide) rfl (by omega) (by decide) dX12_comesTo_84 (a := z113) ez113 ?_
        refine x_iast C (N := 33) (i := 17) (q := z77) (a := z113) (by decide) rfl (by omega) (by decide) dX12_comesTo_85 ?_
        refine x_gV ?_
        intro V114 hV114
        have hI114 : AI K G V114 := hI78.up hV114 rfl (by omega) rfl (Or.inl (by decide))
        have hB114 := hB78.up hV114 (by rw [mkey_r (by decide)]; rfl)
        replace hF := hF.to (rdb_e (z := V114) hV114.symm)
        refine x_iload_n C.1 dX12_comesTo_86 4 rfl ?_
        refine x_iconst C.1 (n := 1) dX12_comesTo_87 ?_
        refine x_iadd C.1 (v := z77 + 1) (by omega) dX12_comesTo_88 ?_
        refine x_istore_n C.1 (lv' := [(3, vI (z77 + 1)), (5, vI (z76 + 1)), (7, vI z83), (6, vI z82), (4, vI (220 * z1)), (0, .ref (ad 0)), (1, vI x1), (2, vI x2)]) dX12_comesTo_89 (by decide) rfl ?_
        refine x_goto C.1 (tgt := 230) dX12_comesTo_90 (by decide) ?_
        refine x_goto C.1 (tgt := 16) dX12_comesTo_230 (by decide) ?_
        refine x_lv [(5, vI (z76 + 1)), (4, vI (220 * z1)), (3, vI (z77 + 1)), (0, .ref (ad 0)), (1, vI x1), (2, vI x2)] [1, 4, 0, 5, 6, 7] rfl ?_
        have hmu78 : (x2 - (z76 + 1)).toNat < (x2 - z76).toNat := (by omega)
        exact ih78 (z76 + 1, z77 + 1, V114) ⟨⟨by omega, by omega⟩, ⟨by omega, by omega⟩, hI114, hB114, ⟨by omega, by omega, by omega⟩, ⟨nf78, Nat.lt_of_lt_of_le hmu78 (Nat.le_of_lt_succ hn78), hF⟩⟩ hmu78
end
