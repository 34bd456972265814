def cpN (V : Nat → Nat → Int) (a b n : Nat) : Nat → Nat → Int := fun j k => if j = b ∧ k < n then V a k else V j k
theorem cpN_0 (V : Nat → Nat → Int) (a b : Nat) : cpN V a b 0 = V := by funext j k; simp [cpN]
theorem cpN_n {V : Nat → Nat → Int} {a b n j : Nat} (h : j ≠ b) : cpN V a b n j = V j := by funext k; simp [cpN, h]
theorem cpN_s {V : Nat → Nat → Int} {a b n : Nat} (h : a ≠ b) : up2 (cpN V a b n) b n (cpN V a b n a n) = cpN V a b (n + 1) := by
  rw [cpN_n h]
  funext j k
  by_cases hj : j = b
  · subst hj
    by_cases hk : k = n
    · subst hk
      rw [up2_s]
      simp [cpN]
    · rw [up2_n _ _ (Or.inr hk)]
      have : k < n + 1 ↔ k < n := by omega
      simp [cpN, this]
  · rw [up2_n _ _ (Or.inl hj)]
    simp [cpN, hj]
theorem cpN_VR {V : Nat → Nat → Int} {a b n : Nat} (h : VR V) : VR (cpN V a b n) := by
  intro j k
  unfold cpN
  split <;> exact h _ _
theorem dX12_plant_0 : decode cX12_plant 0 = .ok (.iload_n 1, 1) := by decide +kernel
theorem dX12_plant_1 : decode cX12_plant 1 = .ok (.iconst 0, 1) := by decide +kernel
theorem dX12_plant_2 : decode cX12_plant 2 = .ok (.iconst 3, 1) := by decide +kernel
theorem dX12_plant_3 : decode cX12_plant 3 = .ok (.invokestatic 126, 3) := by decide +kernel
theorem dX12_plant_6 : decode cX12_plant 6 = .ok (.ifCond .eq 33, 3) := by decide +kernel
theorem dX12_plant_9 : decode cX12_plant 9 = .ok (.iload_n 2, 1) := by decide +kernel
theorem dX12_plant_10 : decode cX12_plant 10 = .ok (.iconst 4, 1) := by decide +kernel
theorem dX12_plant_11 : decode cX12_plant 11 = .ok (.bipush 24, 2) := by decide +kernel
theorem dX12_plant_13 : decode cX12_plant 13 = .ok (.invokestatic 126, 3) := by decide +kernel
theorem dX12_plant_16 : decode cX12_plant 16 = .ok (.ifCond .eq 23, 3) := by decide +kernel
theorem dX12_plant_19 : decode cX12_plant 19 = .ok (.iload_n 3, 1) := by decide +kernel
theorem dX12_plant_20 : decode cX12_plant 20 = .ok (.iconst 0, 1) := by decide +kernel
theorem dX12_plant_21 : decode cX12_plant 21 = .ok (.iload_n 2, 1) := by decide +kernel
theorem dX12_plant_22 : decode cX12_plant 22 = .ok (.invokestatic 126, 3) := by decide +kernel
theorem dX12_plant_25 : decode cX12_plant 25 = .ok (.ifCond .eq 14, 3) := by decide +kernel
theorem dX12_plant_28 : decode cX12_plant 28 = .ok (.iload 4, 2) := by decide +kernel
theorem dX12_plant_30 : decode cX12_plant 30 = .ok (.iconst 1, 1) := by decide +kernel
theorem dX12_plant_31 : decode cX12_plant 31 = .ok (.bipush 9, 2) := by decide +kernel
theorem dX12_plant_33 : decode cX12_plant 33 = .ok (.invokestatic 126, 3) := by decide +kernel
theorem dX12_plant_36 : decode cX12_plant 36 = .ok (.ifCond .ne 5, 3) := by decide +kernel
theorem dX12_plant_39 : decode cX12_plant 39 = .ok (.iconst 0, 1) := by decide +kernel
theorem dX12_plant_40 : decode cX12_plant 40 = .ok (.ireturn, 1) := by decide +kernel
theorem dX12_plant_41 : decode cX12_plant 41 = .ok (.aload_n 0, 1) := by decide +kernel
theorem dX12_plant_42 : decode cX12_plant 42 = .ok (.getfield 7, 3) := by decide +kernel
theorem dX12_plant_45 : decode cX12_plant 45 = .ok (.bipush 76, 2) := by decide +kernel
theorem dX12_plant_47 : decode cX12_plant 47 = .ok (.aload_n 0, 1) := by decide +kernel
theorem dX12_plant_48 : decode cX12_plant 48 = .ok (.getfield 7, 3) := by decide +kernel
theorem dX12_plant_51 : decode cX12_plant 51 = .ok (.bipush 76, 2) := by decide +kernel
theorem dX12_plant_53 : decode cX12_plant 53 = .ok (.iaload, 1) := by decide +kernel
theorem dX12_plant_54 : decode cX12_plant 54 = .ok (.iconst 1, 1) := by decide +kernel
theorem dX12_plant_55 : decode cX12_plant 55 = .ok (.iload_n 1, 1) := by decide +kernel
theorem dX12_plant_56 : decode cX12_plant 56 = .ok (.ishl, 1) := by decide +kernel
theorem dX12_plant_57 : decode cX12_plant 57 = .ok (.ior, 1) := by decide +kernel
theorem dX12_plant_58 : decode cX12_plant 58 = .ok (.iastore, 1) := by decide +kernel
theorem dX12_plant_59 : decode cX12_plant 59 = .ok (.aload_n 0, 1) := by decide +kernel
theorem dX12_plant_60 : decode cX12_plant 60 = .ok (.getfield 7, 3) := by decide +kernel
theorem dX12_plant_63 : decode cX12_plant 63 = .ok (.bipush 77, 2) := by decide +kernel
theorem dX12_plant_65 : decode cX12_plant 65 = .ok (.aload_n 0, 1) := by decide +kernel
theorem dX12_plant_66 : decode cX12_plant 66 = .ok (.getfield 7, 3) := by decide +kernel
theorem dX12_plant_69 : decode cX12_plant 69 = .ok (.bipush 77, 2) := by decide +kernel
theorem dX12_plant_71 : decode cX12_plant 71 = .ok (.iaload, 1) := by decide +kernel
theorem dX12_plant_72 : decode cX12_plant 72 = .ok (.iconst 1, 1) := by decide +kernel
theorem dX12_plant_73 : decode cX12_plant 73 = .ok (.iload_n 1, 1) := by decide +kernel
theorem dX12_plant_74 : decode cX12_plant 74 = .ok (.ishl, 1) := by decide +kernel
theorem dX12_plant_75 : decode cX12_plant 75 = .ok (.iconst (-1), 1) := by decide +kernel
theorem dX12_plant_76 : decode cX12_plant 76 = .ok (.ixor, 1) := by decide +kernel
theorem dX12_plant_77 : decode cX12_plant 77 = .ok (.iand, 1) := by decide +kernel
theorem dX12_plant_78 : decode cX12_plant 78 = .ok (.iastore, 1) := by decide +kernel
theorem dX12_plant_79 : decode cX12_plant 79 = .ok (.aload_n 0, 1) := by decide +kernel
theorem dX12_plant_80 : decode cX12_plant 80 = .ok (.getfield 7, 3) := by decide +kernel
theorem dX12_plant_83 : decode cX12_plant 83 = .ok (.iconst 0, 1) := by decide +kernel
theorem dX12_plant_84 : decode cX12_plant 84 = .ok (.iload_n 1, 1) := by decide +kernel
theorem dX12_plant_85 : decode cX12_plant 85 = .ok (.iadd, 1) := by decide +kernel
theorem dX12_plant_86 : decode cX12_plant 86 = .ok (.iload_n 2, 1) := by decide +kernel
theorem dX12_plant_87 : decode cX12_plant 87 = .ok (.iastore, 1) := by decide +kernel
theorem dX12_plant_88 : decode cX12_plant 88 = .ok (.aload_n 0, 1) := by decide +kernel
theorem dX12_plant_89 : decode cX12_plant 89 = .ok (.getfield 7, 3) := by decide +kernel
theorem dX12_plant_92 : decode cX12_plant 92 = .ok (.iconst 4, 1) := by decide +kernel
theorem dX12_plant_93 : decode cX12_plant 93 = .ok (.iload_n 1, 1) := by decide +kernel
theorem dX12_plant_94 : decode cX12_plant 94 = .ok (.iadd, 1) := by decide +kernel
theorem dX12_plant_95 : decode cX12_plant 95 = .ok (.iload_n 3, 1) := by decide +kernel
theorem dX12_plant_96 : decode cX12_plant 96 = .ok (.iastore, 1) := by decide +kernel
theorem dX12_plant_97 : decode cX12_plant 97 = .ok (.aload_n 0, 1) := by decide +kernel
theorem dX12_plant_98 : decode cX12_plant 98 = .ok (.getfield 7, 3) := by decide +kernel
theorem dX12_plant_101 : decode cX12_plant 101 = .ok (.bipush 8, 2) := by decide +kernel
theorem dX12_plant_103 : decode cX12_plant 103 = .ok (.iload_n 1, 1) := by decide +kernel
theorem dX12_plant_104 : decode cX12_plant 104 = .ok (.iadd, 1) := by decide +kernel
theorem dX12_plant_105 : decode cX12_plant 105 = .ok (.iload 4, 2) := by decide +kernel
theorem dX12_plant_107 : decode cX12_plant 107 = .ok (.iastore, 1) := by decide +kernel
theorem dX12_plant_108 : decode cX12_plant 108 = .ok (.aload_n 0, 1) := by decide +kernel
theorem dX12_plant_109 : decode cX12_plant 109 = .ok (.getfield 7, 3) := by decide +kernel
theorem dX12_plant_112 : decode cX12_plant 112 = .ok (.bipush 12, 2) := by decide +kernel
theorem dX12_plant_114 : decode cX12_plant 114 = .ok (.iload_n 1, 1) := by decide +kernel
theorem dX12_plant_115 : decode cX12_plant 115 = .ok (.iadd, 1) := by decide +kernel
theorem dX12_plant_116 : decode cX12_plant 116 = .ok (.iconst 0, 1) := by decide +kernel
theorem dX12_plant_117 : decode cX12_plant 117 = .ok (.iastore, 1) := by decide +kernel
theorem dX12_plant_118 : decode cX12_plant 118 = .ok (.aload_n 0, 1) := by decide +kernel
theorem dX12_plant_119 : decode cX12_plant 119 = .ok (.getfield 7, 3) := by decide +kernel
theorem dX12_plant_122 : decode cX12_plant 122 = .ok (.bipush 16, 2) := by decide +kernel
theorem dX12_plant_124 : decode cX12_plant 124 = .ok (.iload_n 1, 1) := by decide +kernel
theorem dX12_plant_125 : decode cX12_plant 125 = .ok (.iadd, 1) := by decide +kernel
theorem dX12_plant_126 : decode cX12_plant 126 = .ok (.iconst 0, 1) := by decide +kernel
theorem dX12_plant_127 : decode cX12_plant 127 = .ok (.iastore, 1) := by decide +kernel
theorem dX12_plant_128 : decode cX12_plant 128 = .ok (.aload_n 0, 1) := by decide +kernel
theorem dX12_plant_129 : decode cX12_plant 129 = .ok (.getfield 7, 3) := by decide +kernel
theorem dX12_plant_132 : decode cX12_plant 132 = .ok (.bipush 20, 2) := by decide +kernel
theorem dX12_plant_134 : decode cX12_plant 134 = .ok (.iload_n 1, 1) := by decide +kernel
theorem dX12_plant_135 : decode cX12_plant 135 = .ok (.iadd, 1) := by decide +kernel
theorem dX12_plant_136 : decode cX12_plant 136 = .ok (.bipush (-2), 2) := by decide +kernel
theorem dX12_plant_138 : decode cX12_plant 138 = .ok (.iastore, 1) := by decide +kernel
theorem dX12_plant_139 : decode cX12_plant 139 = .ok (.iconst 0, 1) := by decide +kernel
theorem dX12_plant_140 : decode cX12_plant 140 = .ok (.istore 5, 2) := by decide +kernel
theorem dX12_plant_142 : decode cX12_plant 142 = .ok (.iload 5, 2) := by decide +kernel
theorem dX12_plant_144 : decode cX12_plant 144 = .ok (.bipush 7, 2) := by decide +kernel
theorem dX12_plant_146 : decode cX12_plant 146 = .ok (.if_icmp .ge 25, 3) := by decide +kernel
theorem dX12_plant_149 : decode cX12_plant 149 = .ok (.aload_n 0, 1) := by decide +kernel
theorem dX12_plant_150 : decode cX12_plant 150 = .ok (.getfield 7, 3) := by decide +kernel
theorem dX12_plant_153 : decode cX12_plant 153 = .ok (.bipush 24, 2) := by decide +kernel
theorem dX12_plant_155 : decode cX12_plant 155 = .ok (.bipush 7, 2) := by decide +kernel
theorem dX12_plant_157 : decode cX12_plant 157 = .ok (.iload_n 1, 1) := by decide +kernel
theorem dX12_plant_158 : decode cX12_plant 158 = .ok (.imul, 1) := by decide +kernel
theorem dX12_plant_159 : decode cX12_plant 159 = .ok (.iadd, 1) := by decide +kernel
theorem dX12_plant_160 : decode cX12_plant 160 = .ok (.iload 5, 2) := by decide +kernel
theorem dX12_plant_162 : decode cX12_plant 162 = .ok (.iadd, 1) := by decide +kernel
theorem dX12_plant_163 : decode cX12_plant 163 = .ok (.iload_n 3, 1) := by decide +kernel
theorem dX12_plant_164 : decode cX12_plant 164 = .ok (.iastore, 1) := by decide +kernel
theorem dX12_plant_165 : decode cX12_plant 165 = .ok (.iinc 5 1, 3) := by decide +kernel
theorem dX12_plant_168 : decode cX12_plant 168 = .ok (.goto (-26), 3) := by decide +kernel
theorem dX12_plant_171 : decode cX12_plant 171 = .ok (.iconst 1, 1) := by decide +kernel
theorem dX12_plant_172 : decode cX12_plant 172 = .ok (.ireturn, 1) := by decide +kernel
set_option maxHeartbeats 4000000 in
set_option maxRecDepth 100000 in
theorem g_plant (l : Launch) (D : va_G) (cy : Nat → ClassId) (ad : Nat → Nat) (V J : Nat → Nat → Int) (Rr : Nat → Nat → Nat) (hV : VR V) (hJ : VJ J) (x1 x2 x3 x4 : Int) (hx1 : R32 x1) (hx2 : R32 x2) (hx3 : R32 x3) (hx4 : R32 x4) (h76 : V 1 76 = 0) (h78 : V 1 78 = 0) (htp : V 0 4 = 0)  : xMi l D (xTY cy) yX12_plant cX12_plant 6 (some .boolean) 1 22 0 0 [.ref (ad 0), vI x1, vI x2, vI x3, vI x4] (MW cy ad V J Rr) (fun u : xS => MW cy ad u.1 u.2.1 u.2.2) (fun r _ => (r = 1 ∧ 0 ≤ x1 ∧ x1 < 4 ∧ 4 ≤ x2 ∧ x2 ≤ 24 ∧ 0 ≤ x3 ∧ x3 ≤ x2 ∧ 1 ≤ x4 ∧ x4 ≤ 9) ∨ (r = 0 ∧ ¬ (0 ≤ x1 ∧ x1 < 4 ∧ 4 ≤ x2 ∧ x2 ≤ 24 ∧ 0 ≤ x3 ∧ x3 ≤ x2 ∧ 1 ≤ x4 ∧ x4 ≤ 9))) := by
  refine xMi.mk (lv0 := [(0, .ref (ad 0)), (1, vI x1), (2, vI x2), (3, vI x3), (4, vI x4)]) (by decide) rfl (Nat.le_of_ble_eq_true rfl) (fun p e s m below meth c A C hr hnm hAe => ?_)
  have C : xC2 p s m _ meth c D A s.heap 6 cX12_plant RX12 (xTY cy) := C
  refine x_iload_n C.1 dX12_plant_0 1 rfl ?_
  refine x_iconst C.1 (n := 0) dX12_plant_1 ?_
  refine x_iconst C.1 (n := 3) dX12_plant_2 ?_
  refine x_callSi C (As := [vI x1, vI 0, vI 3]) (rest := []) (c_in l D cy x1 0 3 hx1 (by decide) (by decide)) (l1 := []) (l2 := _) rfl (w2 := fun _ => _) (fun _ => rfl) rfl wm_yX12_in wn_X12 wl_X12_126 wi_yX12_in hd_yX12_in rfl ⟨Nat.le_of_ble_eq_true rfl, Nat.le_of_ble_eq_true rfl⟩ (Nat.le_of_ble_eq_true rfl) ⟨Nat.le_of_ble_eq_true rfl, Nat.le_of_ble_eq_true rfl⟩ dX12_plant_3 (fun r1 u1 hr1 h1 => ?_)
  rcases h1 with ⟨rfl, t1, t1b⟩ | ⟨rfl, t1⟩
  · refine x_if_eq_f C.1 (tgt := 39) dX12_plant_6 (by decide) (by decide) (by decide) ?_
    refine x_iload_n C.1 dX12_plant_9 2 rfl ?_
    refine x_iconst C.1 (n := 4) dX12_plant_10 ?_
    refine x_bipush C.1 (n := 24) dX12_plant_11 ?_
    refine x_callSi C (As := [vI x2, vI 4, vI 24]) (rest := []) (c_in l D cy x2 4 24 hx2 (by decide) (by decide)) (l1 := []) (l2 := _) rfl (w2 := fun _ => _) (fun _ => rfl) rfl wm_yX12_in wn_X12 wl_X12_126 wi_yX12_in hd_yX12_in rfl ⟨Nat.le_of_ble_eq_true rfl, Nat.le_of_ble_eq_true rfl⟩ (Nat.le_of_ble_eq_true rfl) ⟨Nat.le_of_ble_eq_true rfl, Nat.le_of_ble_eq_true rfl⟩ dX12_plant_13 (fun r2 u2 hr2 h2 => ?_)
    rcases h2 with ⟨rfl, t2, t2b⟩ | ⟨rfl, t2⟩
    · refine x_if_eq_f C.1 (tgt := 39) dX12_plant_16 (by decide) (by decide) (by decide) ?_
      refine x_iload_n C.1 dX12_plant_19 3 rfl ?_
      refine x_iconst C.1 (n := 0) dX12_plant_20 ?_
      refine x_iload_n C.1 dX12_plant_21 2 rfl ?_
      refine x_callSi C (As := [vI x3, vI 0, vI x2]) (rest := []) (c_in l D cy x3 0 x2 hx3 (by decide) hx2) (l1 := []) (l2 := _) rfl (w2 := fun _ => _) (fun _ => rfl) rfl wm_yX12_in wn_X12 wl_X12_126 wi_yX12_in hd_yX12_in rfl ⟨Nat.le_of_ble_eq_true rfl, Nat.le_of_ble_eq_true rfl⟩ (Nat.le_of_ble_eq_true rfl) ⟨Nat.le_of_ble_eq_true rfl, Nat.le_of_ble_eq_true rfl⟩ dX12_plant_22 (fun r3 u3 hr3 h3 => ?_)
      rcases h3 with ⟨rfl, t3, t3b⟩ | ⟨rfl, t3⟩
      · refine x_if_eq_f C.1 (tgt := 39) dX12_plant_25 (by decide) (by decide) (by decide) ?_
        refine x_iload C.1 dX12_plant_28 4 rfl ?_
        refine x_iconst C.1 (n := 1) dX12_plant_30 ?_
        refine x_bipush C.1 (n := 9) dX12_plant_31 ?_
        refine x_callSi C (As := [vI x4, vI 1, vI 9]) (rest := []) (c_in l D cy x4 1 9 hx4 (by decide) (by decide)) (l1 := []) (l2 := _) rfl (w2 := fun _ => _) (fun _ => rfl) rfl wm_yX12_in wn_X12 wl_X12_126 wi_yX12_in hd_yX12_in rfl ⟨Nat.le_of_ble_eq_true rfl, Nat.le_of_ble_eq_true rfl⟩ (Nat.le_of_ble_eq_true rfl) ⟨Nat.le_of_ble_eq_true rfl, Nat.le_of_ble_eq_true rfl⟩ dX12_plant_33 (fun r4 u4 hr4 h4 => ?_)
        rcases h4 with ⟨rfl, t4, t4b⟩ | ⟨rfl, t4⟩
        · refine x_if_ne_t C.1 (tgt := 41) dX12_plant_36 (by decide) (by decide) (by decide) ?_
          refine x_aload_n C.1 dX12_plant_41 0 rfl ?_
          refine x_getA C (N := 33) (i := 0) (by decide) rfl vc_X12 wx_X12 0 (by decide) wf_X12_7 (a := 1) rfl dX12_plant_42 ?_
          refine x_bipush C.1 (n := 76) dX12_plant_45 ?_
          refine x_aload_n C.1 dX12_plant_47 0 rfl ?_
          refine x_getA C (N := 33) (i := 0) (by decide) rfl vc_X12 wx_X12 0 (by decide) wf_X12_7 (a := 1) rfl dX12_plant_48 ?_
          refine x_bipush C.1 (n := 76) dX12_plant_51 ?_
          refine x_iald C (N := 33) (i := 1) (q := 76) (by decide) rfl (by decide) (by decide) dX12_plant_53 (a := V 1 76) rfl ?_
          refine x_iconst C.1 (n := 1) dX12_plant_54 ?_
          refine x_iload_n C.1 dX12_plant_55 1 rfl ?_
          refine x_ishl C.1 (v := iShl 1 x1) rfl dX12_plant_56 ?_
          refine x_ior C.1 (v := iOr (V 1 76) (iShl 1 x1)) rfl dX12_plant_57 ?_
          refine x_iast C (N := 33) (i := 1) (q := 76) (a := iOr (V 1 76) (iShl 1 x1)) (by decide) rfl (by decide) (by decide) dX12_plant_58 ?_
          rw [show (76 : Int).toNat = 76 from rfl]
          refine x_aload_n C.1 dX12_plant_59 0 rfl ?_
          refine x_getA C (N := 33) (i := 0) (by decide) rfl vc_X12 wx_X12 0 (by decide) wf_X12_7 (a := 1) rfl dX12_plant_60 ?_
          refine x_bipush C.1 (n := 77) dX12_plant_63 ?_
          refine x_aload_n C.1 dX12_plant_65 0 rfl ?_
          refine x_getA C (N := 33) (i := 0) (by decide) rfl vc_X12 wx_X12 0 (by decide) wf_X12_7 (a := 1) rfl dX12_plant_66 ?_
          refine x_bipush C.1 (n := 77) dX12_plant_69 ?_
          refine x_iald C (N := 33) (i := 1) (q := 77) (by decide) rfl (by decide) (by decide) dX12_plant_71 (a := (up2 V 1 76 (iOr (V 1 76) (iShl 1 x1))) 1 77) rfl ?_
          refine x_iconst C.1 (n := 1) dX12_plant_72 ?_
          refine x_iload_n C.1 dX12_plant_73 1 rfl ?_
          refine x_ishl C.1 (v := iShl 1 x1) rfl dX12_plant_74 ?_
          refine x_iconst C.1 (n := -1) dX12_plant_75 ?_
          refine x_ixor C.1 (v := iXor (iShl 1 x1) (-1)) rfl dX12_plant_76 ?_
          refine x_iand C.1 (v := iAnd ((up2 V 1 76 (iOr (V 1 76) (iShl 1 x1))) 1 77) (iXor (iShl 1 x1) (-1))) rfl dX12_plant_77 ?_
          refine x_iast C (N := 33) (i := 1) (q := 77) (a := iAnd ((up2 V 1 76 (iOr (V 1 76) (iShl 1 x1))) 1 77) (iXor (iShl 1 x1) (-1))) (by decide) rfl (by decide) (by decide) dX12_plant_78 ?_
          rw [show (77 : Int).toNat = 77 from rfl]
          refine x_aload_n C.1 dX12_plant_79 0 rfl ?_
          refine x_getA C (N := 33) (i := 0) (by decide) rfl vc_X12 wx_X12 0 (by decide) wf_X12_7 (a := 1) rfl dX12_plant_80 ?_
          refine x_iconst C.1 (n := 0) dX12_plant_83 ?_
          refine x_iload_n C.1 dX12_plant_84 1 rfl ?_
          refine x_iadd C.1 (v := 0 + x1) rfl dX12_plant_85 ?_
          refine x_iload_n C.1 dX12_plant_86 2 rfl ?_
          refine x_iast C (N := 33) (i := 1) (q := 0 + x1) (a := x2) (by decide) rfl (by omega) (by decide) dX12_plant_87 ?_
          refine x_aload_n C.1 dX12_plant_88 0 rfl ?_
          refine x_getA C (N := 33) (i := 0) (by decide) rfl vc_X12 wx_X12 0 (by decide) wf_X12_7 (a := 1) rfl dX12_plant_89 ?_
          refine x_iconst C.1 (n := 4) dX12_plant_92 ?_
          refine x_iload_n C.1 dX12_plant_93 1 rfl ?_
          refine x_iadd C.1 (v := 4 + x1) rfl dX12_plant_94 ?_
          refine x_iload_n C.1 dX12_plant_95 3 rfl ?_
          refine x_iast C (N := 33) (i := 1) (q := 4 + x1) (a := x3) (by decide) rfl (by omega) (by decide) dX12_plant_96 ?_
          refine x_aload_n C.1 dX12_plant_97 0 rfl ?_
          refine x_getA C (N := 33) (i := 0) (by decide) rfl vc_X12 wx_X12 0 (by decide) wf_X12_7 (a := 1) rfl dX12_plant_98 ?_
          refine x_bipush C.1 (n := 8) dX12_plant_101 ?_
          refine x_iload_n C.1 dX12_plant_103 1 rfl ?_
          refine x_iadd C.1 (v := 8 + x1) rfl dX12_plant_104 ?_
          refine x_iload C.1 dX12_plant_105 4 rfl ?_
          refine x_iast C (N := 33) (i := 1) (q := 8 + x1) (a := x4) (by decide) rfl (by omega) (by decide) dX12_plant_107 ?_
          refine x_aload_n C.1 dX12_plant_108 0 rfl ?_
          refine x_getA C (N := 33) (i := 0) (by decide) rfl vc_X12 wx_X12 0 (by decide) wf_X12_7 (a := 1) rfl dX12_plant_109 ?_
          refine x_bipush C.1 (n := 12) dX12_plant_112 ?_
          refine x_iload_n C.1 dX12_plant_114 1 rfl ?_
          refine x_iadd C.1 (v := 12 + x1) rfl dX12_plant_115 ?_
          refine x_iconst C.1 (n := 0) dX12_plant_116 ?_
          refine x_iast C (N := 33) (i := 1) (q := 12 + x1) (a := 0) (by decide) rfl (by omega) (by decide) dX12_plant_117 ?_
          refine x_aload_n C.1 dX12_plant_118 0 rfl ?_
          refine x_getA C (N := 33) (i := 0) (by decide) rfl vc_X12 wx_X12 0 (by decide) wf_X12_7 (a := 1) rfl dX12_plant_119 ?_
          refine x_bipush C.1 (n := 16) dX12_plant_122 ?_
          refine x_iload_n C.1 dX12_plant_124 1 rfl ?_
          refine x_iadd C.1 (v := 16 + x1) rfl dX12_plant_125 ?_
          refine x_iconst C.1 (n := 0) dX12_plant_126 ?_
          refine x_iast C (N := 33) (i := 1) (q := 16 + x1) (a := 0) (by decide) rfl (by omega) (by decide) dX12_plant_127 ?_
          refine x_aload_n C.1 dX12_plant_128 0 rfl ?_
          refine x_getA C (N := 33) (i := 0) (by decide) rfl vc_X12 wx_X12 0 (by decide) wf_X12_7 (a := 1) rfl dX12_plant_129 ?_
          refine x_bipush C.1 (n := 20) dX12_plant_132 ?_
          refine x_iload_n C.1 dX12_plant_134 1 rfl ?_
          refine x_iadd C.1 (v := 20 + x1) rfl dX12_plant_135 ?_
          refine x_bipush C.1 (n := -2) dX12_plant_136 ?_
          refine x_iast C (N := 33) (i := 1) (q := 20 + x1) (a := (-2)) (by decide) rfl (by omega) (by decide) dX12_plant_138 ?_
          refine x_iconst C.1 (n := 0) dX12_plant_139 ?_
          refine x_istore C.1 (lv' := [(5, vI 0), (0, .ref (ad 0)), (1, vI x1), (2, vI x2), (3, vI x3), (4, vI x4)]) dX12_plant_140 (by decide) rfl ?_
          refine x_iload C.1 dX12_plant_142 0 rfl ?_
          refine x_bipush C.1 (n := 7) dX12_plant_144 ?_
          refine x_icmp_ge_f C.1 (tgt := 171) dX12_plant_146 (by decide) (by decide) (by decide) (by decide) ?_
          refine x_aload_n C.1 dX12_plant_149 1 rfl ?_
          refine x_getA C (N := 33) (i := 0) (by decide) rfl vc_X12 wx_X12 0 (by decide) wf_X12_7 (a := 1) rfl dX12_plant_150 ?_
          refine x_bipush C.1 (n := 24) dX12_plant_153 ?_
          refine x_bipush C.1 (n := 7) dX12_plant_155 ?_
          refine x_iload_n C.1 dX12_plant_157 2 rfl ?_
          refine x_imul C.1 (v := 7 * x1) rfl dX12_plant_158 ?_
          refine x_iadd C.1 (v := 24 + (7 * x1)) rfl dX12_plant_159 ?_
          refine x_iload C.1 dX12_plant_160 0 rfl ?_
          refine x_iadd C.1 (v := (24 + (7 * x1)) + 0) rfl dX12_plant_162 ?_
          refine x_iload_n C.1 dX12_plant_163 4 rfl ?_
          refine x_iast C (N := 33) (i := 1) (q := (24 + (7 * x1)) + 0) (a := x3) (by decide) rfl (by omega) (by decide) dX12_plant_164 ?_
          refine x_iinc C.1 (v := 1) (lv' := [(5, vI 1), (0, .ref (ad 0)), (1, vI x1), (2, vI x2), (3, vI x3), (4, vI x4)]) (by decide) dX12_plant_165 0 rfl (by decide) rfl ?_
          refine x_goto C.1 (tgt := 142) dX12_plant_168 (by decide) ?_
          refine x_iload C.1 dX12_plant_142 0 rfl ?_
          refine x_bipush C.1 (n := 7) dX12_plant_144 ?_
          refine x_icmp_ge_f C.1 (tgt := 171) dX12_plant_146 (by decide) (by decide) (by decide) (by decide) ?_
          refine x_aload_n C.1 dX12_plant_149 1 rfl ?_
          refine x_getA C (N := 33) (i := 0) (by decide) rfl vc_X12 wx_X12 0 (by decide) wf_X12_7 (a := 1) rfl dX12_plant_150 ?_
          refine x_bipush C.1 (n := 24) dX12_plant_153 ?_
          refine x_bipush C.1 (n := 7) dX12_plant_155 ?_
          refine x_iload_n C.1 dX12_plant_157 2 rfl ?_
          refine x_imul C.1 (v := 7 * x1) rfl dX12_plant_158 ?_
          refine x_iadd C.1 (v := 24 + (7 * x1)) rfl dX12_plant_159 ?_
          refine x_iload C.1 dX12_plant_160 0 rfl ?_
          refine x_iadd C.1 (v := (24 + (7 * x1)) + 1) rfl dX12_plant_162 ?_
          refine x_iload_n C.1 dX12_plant_163 4 rfl ?_
          refine x_iast C (N := 33) (i := 1) (q := (24 + (7 * x1)) + 1) (a := x3) (by decide) rfl (by omega) (by decide) dX12_plant_164 ?_
          refine x_iinc C.1 (v := 2) (lv' := [(5, vI 2), (0, .ref (ad 0)), (1, vI x1), (2, vI x2), (3, vI x3), (4, vI x4)]) (by decide) dX12_plant_165 0 rfl (by decide) rfl ?_
          refine x_goto C.1 (tgt := 142) dX12_plant_168 (by decide) ?_
          refine x_iload C.1 dX12_plant_142 0 rfl ?_
          refine x_bipush C.1 (n := 7) dX12_plant_144 ?_
          refine x_icmp_ge_f C.1 (tgt := 171) dX12_plant_146 (by decide) (by decide) (by decide) (by decide) ?_
          refine x_aload_n C.1 dX12_plant_149 1 rfl ?_
          refine x_getA C (N := 33) (i := 0) (by decide) rfl vc_X12 wx_X12 0 (by decide) wf_X12_7 (a := 1) rfl dX12_plant_150 ?_
          refine x_bipush C.1 (n := 24) dX12_plant_153 ?_
          refine x_bipush C.1 (n := 7) dX12_plant_155 ?_
          refine x_iload_n C.1 dX12_plant_157 2 rfl ?_
          refine x_imul C.1 (v := 7 * x1) rfl dX12_plant_158 ?_
          refine x_iadd C.1 (v := 24 + (7 * x1)) rfl dX12_plant_159 ?_
          refine x_iload C.1 dX12_plant_160 0 rfl ?_
          refine x_iadd C.1 (v := (24 + (7 * x1)) + 2) rfl dX12_plant_162 ?_
          refine x_iload_n C.1 dX12_plant_163 4 rfl ?_
          refine x_iast C (N := 33) (i := 1) (q := (24 + (7 * x1)) + 2) (a := x3) (by decide) rfl (by omega) (by decide) dX12_plant_164 ?_
          refine x_iinc C.1 (v := 3) (lv' := [(5, vI 3), (0, .ref (ad 0)), (1, vI x1), (2, vI x2), (3, vI x3), (4, vI x4)]) (by decide) dX12_plant_165 0 rfl (by decide) rfl ?_
          refine x_goto C.1 (tgt := 142) dX12_plant_168 (by decide) ?_
          refine x_iload C.1 dX12_plant_142 0 rfl ?_
          refine x_bipush C.1 (n := 7) dX12_plant_144 ?_
          refine x_icmp_ge_f C.1 (tgt := 171) dX12_plant_146 (by decide) (by decide) (by decide) (by decide) ?_
          refine x_aload_n C.1 dX12_plant_149 1 rfl ?_
          refine x_getA C (N := 33) (i := 0) (by decide) rfl vc_X12 wx_X12 0 (by decide) wf_X12_7 (a := 1) rfl dX12_plant_150 ?_
          refine x_bipush C.1 (n := 24) dX12_plant_153 ?_
          refine x_bipush C.1 (n := 7) dX12_plant_155 ?_
          refine x_iload_n C.1 dX12_plant_157 2 rfl ?_
          refine x_imul C.1 (v := 7 * x1) rfl dX12_plant_158 ?_
          refine x_iadd C.1 (v := 24 + (7 * x1)) rfl dX12_plant_159 ?_
          refine x_iload C.1 dX12_plant_160 0 rfl ?_
          refine x_iadd C.1 (v := (24 + (7 * x1)) + 3) rfl dX12_plant_162 ?_
          refine x_iload_n C.1 dX12_plant_163 4 rfl ?_
          refine x_iast C (N := 33) (i := 1) (q := (24 + (7 * x1)) + 3) (a := x3) (by decide) rfl (by omega) (by decide) dX12_plant_164 ?_
          refine x_iinc C.1 (v := 4) (lv' := [(5, vI 4), (0, .ref (ad 0)), (1, vI x1), (2, vI x2), (3, vI x3), (4, vI x4)]) (by decide) dX12_plant_165 0 rfl (by decide) rfl ?_
          refine x_goto C.1 (tgt := 142) dX12_plant_168 (by decide) ?_
          refine x_iload C.1 dX12_plant_142 0 rfl ?_
          refine x_bipush C.1 (n := 7) dX12_plant_144 ?_
          refine x_icmp_ge_f C.1 (tgt := 171) dX12_plant_146 (by decide) (by decide) (by decide) (by decide) ?_
          refine x_aload_n C.1 dX12_plant_149 1 rfl ?_
          refine x_getA C (N := 33) (i := 0) (by decide) rfl vc_X12 wx_X12 0 (by decide) wf_X12_7 (a := 1) rfl dX12_plant_150 ?_
          refine x_bipush C.1 (n := 24) dX12_plant_153 ?_
          refine x_bipush C.1 (n := 7) dX12_plant_155 ?_
          refine x_iload_n C.1 dX12_plant_157 2 rfl ?_
          refine x_imul C.1 (v := 7 * x1) rfl dX12_plant_158 ?_
          refine x_iadd C.1 (v := 24 + (7 * x1)) rfl dX12_plant_159 ?_
          refine x_iload C.1 dX12_plant_160 0 rfl ?_
          refine x_iadd C.1 (v := (24 + (7 * x1)) + 4) rfl dX12_plant_162 ?_
          refine x_iload_n C.1 dX12_plant_163 4 rfl ?_
          refine x_iast C (N := 33) (i := 1) (q := (24 + (7 * x1)) + 4) (a := x3) (by decide) rfl (by omega) (by decide) dX12_plant_164 ?_
          refine x_iinc C.1 (v := 5) (lv' := [(5, vI 5), (0, .ref (ad 0)), (1, vI x1), (2, vI x2), (3, vI x3), (4, vI x4)]) (by decide) dX12_plant_165 0 rfl (by decide) rfl ?_
          refine x_goto C.1 (tgt := 142) dX12_plant_168 (by decide) ?_
          refine x_iload C.1 dX12_plant_142 0 rfl ?_
          refine x_bipush C.1 (n := 7) dX12_plant_144 ?_
          refine x_icmp_ge_f C.1 (tgt := 171) dX12_plant_146 (by decide) (by decide) (by decide) (by decide) ?_
          refine x_aload_n C.1 dX12_plant_149 1 rfl ?_
          refine x_getA C (N := 33) (i := 0) (by decide) rfl vc_X12 wx_X12 0 (by decide) wf_X12_7 (a := 1) rfl dX12_plant_150 ?_
          refine x_bipush C.1 (n := 24) dX12_plant_153 ?_
          refine x_bipush C.1 (n := 7) dX12_plant_155 ?_
          refine x_iload_n C.1 dX12_plant_157 2 rfl ?_
          refine x_imul C.1 (v := 7 * x1) rfl dX12_plant_158 ?_
          refine x_iadd C.1 (v := 24 + (7 * x1)) rfl dX12_plant_159 ?_
          refine x_iload C.1 dX12_plant_160 0 rfl ?_
          refine x_iadd C.1 (v := (24 + (7 * x1)) + 5) rfl dX12_plant_162 ?_
          refine x_iload_n C.1 dX12_plant_163 4 rfl ?_
          refine x_iast C (N := 33) (i := 1) (q := (24 + (7 * x1)) + 5) (a := x3) (by decide) rfl (by omega) (by decide) dX12_plant_164 ?_
          refine x_iinc C.1 (v := 6) (lv' := [(5, vI 6), (0, .ref (ad 0)), (1, vI x1), (2, vI x2), (3, vI x3), (4, vI x4)]) (by decide) dX12_plant_165 0 rfl (by decide) rfl ?_
          refine x_goto C.1 (tgt := 142) dX12_plant_168 (by decide) ?_
          refine x_iload C.1 dX12_plant_142 0 rfl ?_
          refine x_bipush C.1 (n := 7) dX12_plant_144 ?_
          refine x_icmp_ge_f C.1 (tgt := 171) dX12_plant_146 (by decide) (by decide) (by decide) (by decide) ?_
          refine x_aload_n C.1 dX12_plant_149 1 rfl ?_
          refine x_getA C (N := 33) (i := 0) (by decide) rfl vc_X12 wx_X12 0 (by decide) wf_X12_7 (a := 1) rfl dX12_plant_150 ?_
          refine x_bipush C.1 (n := 24) dX12_plant_153 ?_
          refine x_bipush C.1 (n := 7) dX12_plant_155 ?_
          refine x_iload_n C.1 dX12_plant_157 2 rfl ?_
          refine x_imul C.1 (v := 7 * x1) rfl dX12_plant_158 ?_
          refine x_iadd C.1 (v := 24 + (7 * x1)) rfl dX12_plant_159 ?_
          refine x_iload C.1 dX12_plant_160 0 rfl ?_
          refine x_iadd C.1 (v := (24 + (7 * x1)) + 6) rfl dX12_plant_162 ?_
          refine x_iload_n C.1 dX12_plant_163 4 rfl ?_
          refine x_iast C (N := 33) (i := 1) (q := (24 + (7 * x1)) + 6) (a := x3) (by decide) rfl (by omega) (by decide) dX12_plant_164 ?_
          refine x_iinc C.1 (v := 7) (lv' := [(5, vI 7), (0, .ref (ad 0)), (1, vI x1), (2, vI x2), (3, vI x3), (4, vI x4)]) (by decide) dX12_plant_165 0 rfl (by decide) rfl ?_
          refine x_goto C.1 (tgt := 142) dX12_plant_168 (by decide) ?_
          refine x_iload C.1 dX12_plant_142 0 rfl ?_
          refine x_bipush C.1 (n := 7) dX12_plant_144 ?_
          refine x_icmp_ge_t C.1 (tgt := 171) dX12_plant_146 (by decide) (by decide) (by decide) (by decide) ?_
          refine x_iconst C.1 (n := 1) dX12_plant_171 ?_
          exact x_zret (S := xS) (post := fun r _ => (r = 1 ∧ 0 ≤ x1 ∧ x1 < 4 ∧ 4 ≤ x2 ∧ x2 ≤ 24 ∧ 0 ≤ x3 ∧ x3 ≤ x2 ∧ 1 ≤ x4 ∧ x4 ≤ 9) ∨ (r = 0 ∧ ¬ (0 ≤ x1 ∧ x1 < 4 ∧ 4 ≤ x2 ∧ x2 ≤ 24 ∧ 0 ≤ x3 ∧ x3 ≤ x2 ∧ 1 ≤ x4 ∧ x4 ≤ 9))) (w1 := fun u : xS => MW cy ad u.1 u.2.1 u.2.2) (a := 1) C hr rfl dX12_plant_172 (by decide) ((up2 (up2 (up2 (up2 (up2 (up2 (up2 (up2 (up2 (up2 (up2 (up2 (up2 (up2 (up2 V 1 76 (iOr (V 1 76) (iShl 1 x1))) 1 77 (iAnd ((up2 V 1 76 (iOr (V 1 76) (iShl 1 x1))) 1 77) (iXor (iShl 1 x1) (-1)))) 1 ((0 + x1).toNat) x2) 1 ((4 + x1).toNat) x3) 1 ((8 + x1).toNat) x4) 1 ((12 + x1).toNat) 0) 1 ((16 + x1).toNat) 0) 1 ((20 + x1).toNat) (-2)) 1 (((24 + (7 * x1)) + 0).toNat) x3) 1 (((24 + (7 * x1)) + 1).toNat) x3) 1 (((24 + (7 * x1)) + 2).toNat) x3) 1 (((24 + (7 * x1)) + 3).toNat) x3) 1 (((24 + (7 * x1)) + 4).toNat) x3) 1 (((24 + (7 * x1)) + 5).toNat) x3) 1 (((24 + (7 * x1)) + 6).toNat) x3), J, Rr) rfl (by omega)
        · refine x_if_ne_f C.1 (tgt := 41) dX12_plant_36 (by decide) (by decide) (by decide) ?_
          refine x_iconst C.1 (n := 0) dX12_plant_39 ?_
          exact x_zret (S := xS) (post := fun r _ => (r = 1 ∧ 0 ≤ x1 ∧ x1 < 4 ∧ 4 ≤ x2 ∧ x2 ≤ 24 ∧ 0 ≤ x3 ∧ x3 ≤ x2 ∧ 1 ≤ x4 ∧ x4 ≤ 9) ∨ (r = 0 ∧ ¬ (0 ≤ x1 ∧ x1 < 4 ∧ 4 ≤ x2 ∧ x2 ≤ 24 ∧ 0 ≤ x3 ∧ x3 ≤ x2 ∧ 1 ≤ x4 ∧ x4 ≤ 9))) (w1 := fun u : xS => MW cy ad u.1 u.2.1 u.2.2) (a := 0) C hr rfl dX12_plant_40 (by decide) (V, J, Rr) rfl (by omega)
      · refine x_if_eq_t C.1 (tgt := 39) dX12_plant_25 (by decide) (by decide) (by decide) ?_
        refine x_iconst C.1 (n := 0) dX12_plant_39 ?_
        exact x_zret (S := xS) (post := fun r _ => (r = 1 ∧ 0 ≤ x1 ∧ x1 < 4 ∧ 4 ≤ x2 ∧ x2 ≤ 24 ∧ 0 ≤ x3 ∧ x3 ≤ x2 ∧ 1 ≤ x4 ∧ x4 ≤ 9) ∨ (r = 0 ∧ ¬ (0 ≤ x1 ∧ x1 < 4 ∧ 4 ≤ x2 ∧ x2 ≤ 24 ∧ 0 ≤ x3 ∧ x3 ≤ x2 ∧ 1 ≤ x4 ∧ x4 ≤ 9))) (w1 := fun u : xS => MW cy ad u.1 u.2.1 u.2.2) (a := 0) C hr rfl dX12_plant_40 (by decide) (V, J, Rr) rfl (by omega)
    · refine x_if_eq_t C.1 (tgt := 39) dX12_plant_16 (by decide) (by decide) (by decide) ?_
      refine x_iconst C.1 (n := 0) dX12_plant_39 ?_
      exact x_zret (S := xS) (post := fun r _ => (r = 1 ∧ 0 ≤ x1 ∧ x1 < 4 ∧ 4 ≤ x2 ∧ x2 ≤ 24 ∧ 0 ≤ x3 ∧ x3 ≤ x2 ∧ 1 ≤ x4 ∧ x4 ≤ 9) ∨ (r = 0 ∧ ¬ (0 ≤ x1 ∧ x1 < 4 ∧ 4 ≤ x2 ∧ x2 ≤ 24 ∧ 0 ≤ x3 ∧ x3 ≤ x2 ∧ 1 ≤ x4 ∧ x4 ≤ 9))) (w1 := fun u : xS => MW cy ad u.1 u.2.1 u.2.2) (a := 0) C hr rfl dX12_plant_40 (by decide) (V, J, Rr) rfl (by omega)
  · refine x_if_eq_t C.1 (tgt := 39) dX12_plant_6 (by decide) (by decide) (by decide) ?_
    refine x_iconst C.1 (n := 0) dX12_plant_39 ?_
    exact x_zret (S := xS) (post := fun r _ => (r = 1 ∧ 0 ≤ x1 ∧ x1 < 4 ∧ 4 ≤ x2 ∧ x2 ≤ 24 ∧ 0 ≤ x3 ∧ x3 ≤ x2 ∧ 1 ≤ x4 ∧ x4 ≤ 9) ∨ (r = 0 ∧ ¬ (0 ≤ x1 ∧ x1 < 4 ∧ 4 ≤ x2 ∧ x2 ≤ 24 ∧ 0 ≤ x3 ∧ x3 ≤ x2 ∧ 1 ≤ x4 ∧ x4 ≤ 9))) (w1 := fun u : xS => MW cy ad u.1 u.2.1 u.2.2) (a := 0) C hr rfl dX12_plant_40 (by decide) (V, J, Rr) rfl (by omega)
theorem dX12_person_0 : decode cX12_person 0 = .ok (.iload_n 1, 1) := by decide +kernel
theorem dX12_person_1 : decode cX12_person 1 = .ok (.iconst 0, 1) := by decide +kernel
theorem dX12_person_2 : decode cX12_person 2 = .ok (.bipush 7, 2) := by decide +kernel
theorem dX12_person_4 : decode cX12_person 4 = .ok (.invokestatic 126, 3) := by decide +kernel
theorem dX12_person_7 : decode cX12_person 7 = .ok (.ifCond .eq 22, 3) := by decide +kernel
theorem dX12_person_10 : decode cX12_person 10 = .ok (.iload_n 2, 1) := by decide +kernel
theorem dX12_person_11 : decode cX12_person 11 = .ok (.iconst 0, 1) := by decide +kernel
theorem dX12_person_12 : decode cX12_person 12 = .ok (.bipush 10, 2) := by decide +kernel
theorem dX12_person_14 : decode cX12_person 14 = .ok (.invokestatic 126, 3) := by decide +kernel
theorem dX12_person_17 : decode cX12_person 17 = .ok (.ifCond .eq 12, 3) := by decide +kernel
theorem dX12_person_20 : decode cX12_person 20 = .ok (.iload_n 3, 1) := by decide +kernel
theorem dX12_person_21 : decode cX12_person 21 = .ok (.iconst 0, 1) := by decide +kernel
theorem dX12_person_22 : decode cX12_person 22 = .ok (.iconst 3, 1) := by decide +kernel
theorem dX12_person_23 : decode cX12_person 23 = .ok (.invokestatic 126, 3) := by decide +kernel
theorem dX12_person_26 : decode cX12_person 26 = .ok (.ifCond .ne 5, 3) := by decide +kernel
theorem dX12_person_29 : decode cX12_person 29 = .ok (.iconst 0, 1) := by decide +kernel
theorem dX12_person_30 : decode cX12_person 30 = .ok (.ireturn, 1) := by decide +kernel
theorem dX12_person_31 : decode cX12_person 31 = .ok (.aload_n 0, 1) := by decide +kernel
theorem dX12_person_32 : decode cX12_person 32 = .ok (.getfield 7, 3) := by decide +kernel
theorem dX12_person_35 : decode cX12_person 35 = .ok (.bipush 78, 2) := by decide +kernel
theorem dX12_person_37 : decode cX12_person 37 = .ok (.aload_n 0, 1) := by decide +kernel
theorem dX12_person_38 : decode cX12_person 38 = .ok (.getfield 7, 3) := by decide +kernel
theorem dX12_person_41 : decode cX12_person 41 = .ok (.bipush 78, 2) := by decide +kernel
theorem dX12_person_43 : decode cX12_person 43 = .ok (.iaload, 1) := by decide +kernel
theorem dX12_person_44 : decode cX12_person 44 = .ok (.iconst 1, 1) := by decide +kernel
theorem dX12_person_45 : decode cX12_person 45 = .ok (.iload_n 1, 1) := by decide +kernel
theorem dX12_person_46 : decode cX12_person 46 = .ok (.ishl, 1) := by decide +kernel
theorem dX12_person_47 : decode cX12_person 47 = .ok (.ior, 1) := by decide +kernel
theorem dX12_person_48 : decode cX12_person 48 = .ok (.iastore, 1) := by decide +kernel
theorem dX12_person_49 : decode cX12_person 49 = .ok (.aload_n 0, 1) := by decide +kernel
theorem dX12_person_50 : decode cX12_person 50 = .ok (.getfield 7, 3) := by decide +kernel
theorem dX12_person_53 : decode cX12_person 53 = .ok (.bipush 52, 2) := by decide +kernel
theorem dX12_person_55 : decode cX12_person 55 = .ok (.iload_n 1, 1) := by decide +kernel
theorem dX12_person_56 : decode cX12_person 56 = .ok (.iadd, 1) := by decide +kernel
theorem dX12_person_57 : decode cX12_person 57 = .ok (.iload_n 2, 1) := by decide +kernel
theorem dX12_person_58 : decode cX12_person 58 = .ok (.iastore, 1) := by decide +kernel
theorem dX12_person_59 : decode cX12_person 59 = .ok (.aload_n 0, 1) := by decide +kernel
theorem dX12_person_60 : decode cX12_person 60 = .ok (.getfield 7, 3) := by decide +kernel
theorem dX12_person_63 : decode cX12_person 63 = .ok (.bipush 60, 2) := by decide +kernel
theorem dX12_person_65 : decode cX12_person 65 = .ok (.iload_n 1, 1) := by decide +kernel
theorem dX12_person_66 : decode cX12_person 66 = .ok (.iadd, 1) := by decide +kernel
theorem dX12_person_67 : decode cX12_person 67 = .ok (.iload_n 3, 1) := by decide +kernel
theorem dX12_person_68 : decode cX12_person 68 = .ok (.iastore, 1) := by decide +kernel
theorem dX12_person_69 : decode cX12_person 69 = .ok (.aload_n 0, 1) := by decide +kernel
theorem dX12_person_70 : decode cX12_person 70 = .ok (.getfield 7, 3) := by decide +kernel
theorem dX12_person_73 : decode cX12_person 73 = .ok (.bipush 68, 2) := by decide +kernel
theorem dX12_person_75 : decode cX12_person 75 = .ok (.iload_n 1, 1) := by decide +kernel
theorem dX12_person_76 : decode cX12_person 76 = .ok (.iadd, 1) := by decide +kernel
theorem dX12_person_77 : decode cX12_person 77 = .ok (.iconst 0, 1) := by decide +kernel
theorem dX12_person_78 : decode cX12_person 78 = .ok (.iastore, 1) := by decide +kernel
theorem dX12_person_79 : decode cX12_person 79 = .ok (.iconst 1, 1) := by decide +kernel
theorem dX12_person_80 : decode cX12_person 80 = .ok (.ireturn, 1) := by decide +kernel
set_option maxHeartbeats 4000000 in
set_option maxRecDepth 100000 in
theorem g_person (l : Launch) (D : va_G) (cy : Nat → ClassId) (ad : Nat → Nat) (V J : Nat → Nat → Int) (Rr : Nat → Nat → Nat) (hV : VR V) (hJ : VJ J) (x1 x2 x3 : Int) (hx1 : R32 x1) (hx2 : R32 x2) (hx3 : R32 x3) (h76 : V 1 76 = 0) (h78 : V 1 78 = 0) (htp : V 0 4 = 0)  : xMi l D (xTY cy) yX12_person cX12_person 4 (some .boolean) 1 22 0 0 [.ref (ad 0), vI x1, vI x2, vI x3] (MW cy ad V J Rr) (fun u : xS => MW cy ad u.1 u.2.1 u.2.2) (fun r _ => (r = 1 ∧ 0 ≤ x1 ∧ x1 < 8 ∧ 0 ≤ x2 ∧ x2 ≤ 10 ∧ 0 ≤ x3 ∧ x3 < 4) ∨ (r = 0 ∧ ¬ (0 ≤ x1 ∧ x1 < 8 ∧ 0 ≤ x2 ∧ x2 ≤ 10 ∧ 0 ≤ x3 ∧ x3 < 4))) := by
  refine xMi.mk (lv0 := [(0, .ref (ad 0)), (1, vI x1), (2, vI x2), (3, vI x3)]) (by decide) rfl (Nat.le_of_ble_eq_true rfl) (fun p e s m below meth c A C hr hnm hAe => ?_)
  have C : xC2 p s m _ meth c D A s.heap 4 cX12_person RX12 (xTY cy) := C
  refine x_iload_n C.1 dX12_person_0 1 rfl ?_
  refine x_iconst C.1 (n := 0) dX12_person_1 ?_
  refine x_bipush C.1 (n := 7) dX12_person_2 ?_
  refine x_callSi C (As := [vI x1, vI 0, vI 7]) (rest := []) (c_in l D cy x1 0 7 hx1 (by decide) (by decide)) (l1 := []) (l2 := _) rfl (w2 := fun _ => _) (fun _ => rfl) rfl wm_yX12_in wn_X12 wl_X12_126 wi_yX12_in hd_yX12_in rfl ⟨Nat.le_of_ble_eq_true rfl, Nat.le_of_ble_eq_true rfl⟩ (Nat.le_of_ble_eq_true rfl) ⟨Nat.le_of_ble_eq_true rfl, Nat.le_of_ble_eq_true rfl⟩ dX12_person_4 (fun r1 u1 hr1 h1 => ?_)
  rcases h1 with ⟨rfl, t1, t1b⟩ | ⟨rfl, t1⟩
  · refine x_if_eq_f C.1 (tgt := 29) dX12_person_7 (by decide) (by decide) (by decide) ?_
    refine x_iload_n C.1 dX12_person_10 2 rfl ?_
    refine x_iconst C.1 (n := 0) dX12_person_11 ?_
    refine x_bipush C.1 (n := 10) dX12_person_12 ?_
    refine x_callSi C (As := [vI x2, vI 0, vI 10]) (rest := []) (c_in l D cy x2 0 10 hx2 (by decide) (by decide)) (l1 := []) (l2 := _) rfl (w2 := fun _ => _) (fun _ => rfl) rfl wm_yX12_in wn_X12 wl_X12_126 wi_yX12_in hd_yX12_in rfl ⟨Nat.le_of_ble_eq_true rfl, Nat.le_of_ble_eq_true rfl⟩ (Nat.le_of_ble_eq_true rfl) ⟨Nat.le_of_ble_eq_true rfl, Nat.le_of_ble_eq_true rfl⟩ dX12_person_14 (fun r2 u2 hr2 h2 => ?_)
    rcases h2 with ⟨rfl, t2, t2b⟩ | ⟨rfl, t2⟩
    · refine x_if_eq_f C.1 (tgt := 29) dX12_person_17 (by decide) (by decide) (by decide) ?_
      refine x_iload_n C.1 dX12_person_20 3 rfl ?_
      refine x_iconst C.1 (n := 0) dX12_person_21 ?_
      refine x_iconst C.1 (n := 3) dX12_person_22 ?_
      refine x_callSi C (As := [vI x3, vI 0, vI 3]) (rest := []) (c_in l D cy x3 0 3 hx3 (by decide) (by decide)) (l1 := []) (l2 := _) rfl (w2 := fun _ => _) (fun _ => rfl) rfl wm_yX12_in wn_X12 wl_X12_126 wi_yX12_in hd_yX12_in rfl ⟨Nat.le_of_ble_eq_true rfl, Nat.le_of_ble_eq_true rfl⟩ (Nat.le_of_ble_eq_true rfl) ⟨Nat.le_of_ble_eq_true rfl, Nat.le_of_ble_eq_true rfl⟩ dX12_person_23 (fun r3 u3 hr3 h3 => ?_)
      rcases h3 with ⟨rfl, t3, t3b⟩ | ⟨rfl, t3⟩
      · refine x_if_ne_t C.1 (tgt := 31) dX12_person_26 (by decide) (by decide) (by decide) ?_
        refine x_aload_n C.1 dX12_person_31 0 rfl ?_
        refine x_getA C (N := 33) (i := 0) (by decide) rfl vc_X12 wx_X12 0 (by decide) wf_X12_7 (a := 1) rfl dX12_person_32 ?_
        refine x_bipush C.1 (n := 78) dX12_person_35 ?_
        refine x_aload_n C.1 dX12_person_37 0 rfl ?_
        refine x_getA C (N := 33) (i := 0) (by decide) rfl vc_X12 wx_X12 0 (by decide) wf_X12_7 (a := 1) rfl dX12_person_38 ?_
        refine x_bipush C.1 (n := 78) dX12_person_41 ?_
        refine x_iald C (N := 33) (i := 1) (q := 78) (by decide) rfl (by decide) (by decide) dX12_person_43 (a := V 1 78) rfl ?_
        refine x_iconst C.1 (n := 1) dX12_person_44 ?_
        refine x_iload_n C.1 dX12_person_45 1 rfl ?_
        refine x_ishl C.1 (v := iShl 1 x1) rfl dX12_person_46 ?_
        refine x_ior C.1 (v := iOr (V 1 78) (iShl 1 x1)) rfl dX12_person_47 ?_
        refine x_iast C (N := 33) (i := 1) (q := 78) (a := iOr (V 1 78) (iShl 1 x1)) (by decide) rfl (by decide) (by decide) dX12_person_48 ?_
        rw [show (78 : Int).toNat = 78 from rfl]
        refine x_aload_n C.1 dX12_person_49 0 rfl ?_
        refine x_getA C (N := 33) (i := 0) (by decide) rfl vc_X12 wx_X12 0 (by decide) wf_X12_7 (a := 1) rfl dX12_person_50 ?_
        refine x_bipush C.1 (n := 52) dX12_person_53 ?_
        refine x_iload_n C.1 dX12_person_55 1 rfl ?_
        refine x_iadd C.1 (v := 52 + x1) rfl dX12_person_56 ?_
        refine x_iload_n C.1 dX12_person_57 2 rfl ?_
        refine x_iast C (N := 33) (i := 1) (q := 52 + x1) (a := x2) (by decide) rfl (by omega) (by decide) dX12_person_58 ?_
        refine x_aload_n C.1 dX12_person_59 0 rfl ?_
        refine x_getA C (N := 33) (i := 0) (by decide) rfl vc_X12 wx_X12 0 (by decide) wf_X12_7 (a := 1) rfl dX12_person_60 ?_
        refine x_bipush C.1 (n := 60) dX12_person_63 ?_
        refine x_iload_n C.1 dX12_person_65 1 rfl ?_
        refine x_iadd C.1 (v := 60 + x1) rfl dX12_person_66 ?_
        refine x_iload_n C.1 dX12_person_67 3 rfl ?_
        refine x_iast C (N := 33) (i := 1) (q := 60 + x1) (a := x3) (by decide) rfl (by omega) (by decide) dX12_person_68 ?_
        refine x_aload_n C.1 dX12_person_69 0 rfl ?_
        refine x_getA C (N := 33) (i := 0) (by decide) rfl vc_X12 wx_X12 0 (by decide) wf_X12_7 (a := 1) rfl dX12_person_70 ?_
        refine x_bipush C.1 (n := 68) dX12_person_73 ?_
        refine x_iload_n C.1 dX12_person_75 1 rfl ?_
        refine x_iadd C.1 (v := 68 + x1) rfl dX12_person_76 ?_
        refine x_iconst C.1 (n := 0) dX12_person_77 ?_
        refine x_iast C (N := 33) (i := 1) (q := 68 + x1) (a := 0) (by decide) rfl (by omega) (by decide) dX12_person_78 ?_
        refine x_iconst C.1 (n := 1) dX12_person_79 ?_
        exact x_zret (S := xS) (post := fun r _ => (r = 1 ∧ 0 ≤ x1 ∧ x1 < 8 ∧ 0 ≤ x2 ∧ x2 ≤ 10 ∧ 0 ≤ x3 ∧ x3 < 4) ∨ (r = 0 ∧ ¬ (0 ≤ x1 ∧ x1 < 8 ∧ 0 ≤ x2 ∧ x2 ≤ 10 ∧ 0 ≤ x3 ∧ x3 < 4))) (w1 := fun u : xS => MW cy ad u.1 u.2.1 u.2.2) (a := 1) C hr rfl dX12_person_80 (by decide) ((up2 (up2 (up2 (up2 V 1 78 (iOr (V 1 78) (iShl 1 x1))) 1 ((52 + x1).toNat) x2) 1 ((60 + x1).toNat) x3) 1 ((68 + x1).toNat) 0), J, Rr) rfl (by omega)
      · refine x_if_ne_f C.1 (tgt := 31) dX12_person_26 (by decide) (by decide) (by decide) ?_
        refine x_iconst C.1 (n := 0) dX12_person_29 ?_
        exact x_zret (S := xS) (post := fun r _ => (r = 1 ∧ 0 ≤ x1 ∧ x1 < 8 ∧ 0 ≤ x2 ∧ x2 ≤ 10 ∧ 0 ≤ x3 ∧ x3 < 4) ∨ (r = 0 ∧ ¬ (0 ≤ x1 ∧ x1 < 8 ∧ 0 ≤ x2 ∧ x2 ≤ 10 ∧ 0 ≤ x3 ∧ x3 < 4))) (w1 := fun u : xS => MW cy ad u.1 u.2.1 u.2.2) (a := 0) C hr rfl dX12_person_30 (by decide) (V, J, Rr) rfl (by omega)
    · refine x_if_eq_t C.1 (tgt := 29) dX12_person_17 (by decide) (by decide) (by decide) ?_
      refine x_iconst C.1 (n := 0) dX12_person_29 ?_
      exact x_zret (S := xS) (post := fun r _ => (r = 1 ∧ 0 ≤ x1 ∧ x1 < 8 ∧ 0 ≤ x2 ∧ x2 ≤ 10 ∧ 0 ≤ x3 ∧ x3 < 4) ∨ (r = 0 ∧ ¬ (0 ≤ x1 ∧ x1 < 8 ∧ 0 ≤ x2 ∧ x2 ≤ 10 ∧ 0 ≤ x3 ∧ x3 < 4))) (w1 := fun u : xS => MW cy ad u.1 u.2.1 u.2.2) (a := 0) C hr rfl dX12_person_30 (by decide) (V, J, Rr) rfl (by omega)
  · refine x_if_eq_t C.1 (tgt := 29) dX12_person_7 (by decide) (by decide) (by decide) ?_
    refine x_iconst C.1 (n := 0) dX12_person_29 ?_
    exact x_zret (S := xS) (post := fun r _ => (r = 1 ∧ 0 ≤ x1 ∧ x1 < 8 ∧ 0 ≤ x2 ∧ x2 ≤ 10 ∧ 0 ≤ x3 ∧ x3 < 4) ∨ (r = 0 ∧ ¬ (0 ≤ x1 ∧ x1 < 8 ∧ 0 ≤ x2 ∧ x2 ≤ 10 ∧ 0 ≤ x3 ∧ x3 < 4))) (w1 := fun u : xS => MW cy ad u.1 u.2.1 u.2.2) (a := 0) C hr rfl dX12_person_30 (by decide) (V, J, Rr) rfl (by omega)
theorem dX12_types_0 : decode cX12_types 0 = .ok (.iconst 3, 1) := by decide +kernel
theorem dX12_types_1 : decode cX12_types 1 = .ok (.istore_n 2, 1) := by decide +kernel
theorem dX12_types_2 : decode cX12_types 2 = .ok (.iload_n 2, 1) := by decide +kernel
theorem dX12_types_3 : decode cX12_types 3 = .ok (.ifCond .lt 35, 3) := by decide +kernel
theorem dX12_types_6 : decode cX12_types 6 = .ok (.aload_n 0, 1) := by decide +kernel
theorem dX12_types_7 : decode cX12_types 7 = .ok (.getfield 19, 3) := by decide +kernel
theorem dX12_types_10 : decode cX12_types 10 = .ok (.aload_n 0, 1) := by decide +kernel
theorem dX12_types_11 : decode cX12_types 11 = .ok (.getfield 137, 3) := by decide +kernel
theorem dX12_types_14 : decode cX12_types 14 = .ok (.iload_n 1, 1) := by decide +kernel
theorem dX12_types_15 : decode cX12_types 15 = .ok (.bipush 8, 2) := by decide +kernel
theorem dX12_types_17 : decode cX12_types 17 = .ok (.iload_n 2, 1) := by decide +kernel
theorem dX12_types_18 : decode cX12_types 18 = .ok (.imul, 1) := by decide +kernel
theorem dX12_types_19 : decode cX12_types 19 = .ok (.ishr, 1) := by decide +kernel
theorem dX12_types_20 : decode cX12_types 20 = .ok (.i2b, 1) := by decide +kernel
theorem dX12_types_21 : decode cX12_types 21 = .ok (.bastore, 1) := by decide +kernel
theorem dX12_types_22 : decode cX12_types 22 = .ok (.aload_n 0, 1) := by decide +kernel
theorem dX12_types_23 : decode cX12_types 23 = .ok (.aload_n 0, 1) := by decide +kernel
theorem dX12_types_24 : decode cX12_types 24 = .ok (.getfield 137, 3) := by decide +kernel
theorem dX12_types_27 : decode cX12_types 27 = .ok (.iconst 1, 1) := by decide +kernel
theorem dX12_types_28 : decode cX12_types 28 = .ok (.iadd, 1) := by decide +kernel
theorem dX12_types_29 : decode cX12_types 29 = .ok (.putfield 137, 3) := by decide +kernel
theorem dX12_types_32 : decode cX12_types 32 = .ok (.iinc 2 (-1), 3) := by decide +kernel
theorem dX12_types_35 : decode cX12_types 35 = .ok (.goto (-33), 3) := by decide +kernel
theorem dX12_types_38 : decode cX12_types 38 = .ok (.return_, 1) := by decide +kernel
set_option maxHeartbeats 4000000 in
set_option maxRecDepth 100000 in
theorem c_types (l : Launch) (D : va_G) (cy : Nat → ClassId) (ad : Nat → Nat) (V J : Nat → Nat → Int) (Rr : Nat → Nat → Nat) (hV : VR V) (hJ : VJ J) (x1 : Int) (hx1 : R32 x1) (hl : 0 ≤ V 0 4 ∧ V 0 4 ≤ 216) : xMv l D (xTY cy) yX12_types cX12_types 3 none 0 0 0 0 [.ref (ad 0), vI x1] (MW cy ad V J Rr) (fun u : xS => MW cy ad u.1 u.2.1 u.2.2) (fun u => u.1 0 4 = V 0 4 + 4 ∧ VR u.1 ∧ (∀ j, j ≠ 0 → j ≠ 4 → u.1 j = V j) ∧ (J, Rr) = u.2) := by
  refine xMv.mk (lv0 := [(0, .ref (ad 0)), (1, vI x1)]) (by decide) rfl (Nat.le_of_ble_eq_true rfl) (fun p e s m below meth c A C hr hnm hAe => ?_)
  have C : xC2 p s m _ meth c D A s.heap 3 cX12_types RX12 (xTY cy) := C
  refine x_iconst C.1 (n := 3) dX12_types_0 ?_
  refine x_istore_n C.1 (lv' := [(2, vI 3), (0, .ref (ad 0)), (1, vI x1)]) dX12_types_1 (by decide) rfl ?_
  refine x_iload_n C.1 dX12_types_2 0 rfl ?_
  refine x_if_lt_f C.1 (tgt := 38) dX12_types_3 (by decide) (by decide) (by decide) ?_
  refine x_aload_n C.1 dX12_types_6 1 rfl ?_
  refine x_getA C (N := 33) (i := 0) (by decide) rfl vc_X12 wx_X12 3 (by decide) wf_X12_19 (a := 4) rfl dX12_types_7 ?_
  refine x_aload_n C.1 dX12_types_10 1 rfl ?_
  refine x_getI C (N := 33) (i := 0) (by decide) rfl vc_X12 wx_X12 4 (by decide) wf_X12_137 rfl dX12_types_11 (a := V 0 4) rfl ?_
  refine x_iload_n C.1 dX12_types_14 2 rfl ?_
  refine x_bipush C.1 (n := 8) dX12_types_15 ?_
  refine x_iload_n C.1 dX12_types_17 0 rfl ?_
  refine x_imul C.1 (v := 24) (by decide) dX12_types_18 ?_
  refine x_ishr C.1 (v := iShr x1 24) rfl dX12_types_19 ?_
  refine x_i2b C.1 dX12_types_20 ?_
  refine x_bast C (N := 33) (i := 4) (q := V 0 4) (a := iB (iShr x1 24)) (by decide) rfl (by omega) (by decide) (iB_nar _) dX12_types_21 ?_
  refine x_aload_n C.1 dX12_types_22 1 rfl ?_
  refine x_aload_n C.1 dX12_types_23 1 rfl ?_
  refine x_getI C (N := 33) (i := 0) (by decide) rfl vc_X12 wx_X12 4 (by decide) wf_X12_137 rfl dX12_types_24 (a := V 0 4) ((up2_n _ _ (Or.inl (by decide))).trans rfl) ?_
  refine x_iconst C.1 (n := 1) dX12_types_27 ?_
  refine x_iadd C.1 (v := (V 0 4) + 1) rfl dX12_types_28 ?_
  refine x_putI C (N := 33) (i := 0) (by decide) rfl vc_X12 wx_X12 4 (by decide) wf_X12_137 tyX12 tyX12_ok nmX12 rfl (tyX12_ok 4 (by decide)) rfl dX12_types_29 rfl rfl ?_
  refine x_iinc C.1 (v := 2) (lv' := [(2, vI 2), (0, .ref (ad 0)), (1, vI x1)]) (by decide) dX12_types_32 0 rfl (by decide) rfl ?_
  refine x_goto C.1 (tgt := 2) dX12_types_35 (by decide) ?_
  refine x_iload_n C.1 dX12_types_2 0 rfl ?_
  refine x_if_lt_f C.1 (tgt := 38) dX12_types_3 (by decide) (by decide) (by decide) ?_
  refine x_aload_n C.1 dX12_types_6 1 rfl ?_
  refine x_getA C (N := 33) (i := 0) (by decide) rfl vc_X12 wx_X12 3 (by decide) wf_X12_19 (a := 4) rfl dX12_types_7 ?_
  refine x_aload_n C.1 dX12_types_10 1 rfl ?_
  refine x_getI C (N := 33) (i := 0) (by decide) rfl vc_X12 wx_X12 4 (by decide) wf_X12_137 rfl dX12_types_11 (a := (V 0 4) + 1) (up2_s _ _ _ _) ?_
  refine x_iload_n C.1 dX12_types_14 2 rfl ?_
  refine x_bipush C.1 (n := 8) dX12_types_15 ?_
  refine x_iload_n C.1 dX12_types_17 0 rfl ?_
  refine x_imul C.1 (v := 16) (by decide) dX12_types_18 ?_
  refine x_ishr C.1 (v := iShr x1 16) rfl dX12_types_19 ?_
  refine x_i2b C.1 dX12_types_20 ?_
  refine x_bast C (N := 33) (i := 4) (q := (V 0 4) + 1) (a := iB (iShr x1 16)) (by decide) rfl (by omega) (by decide) (iB_nar _) dX12_types_21 ?_
  refine x_aload_n C.1 dX12_types_22 1 rfl ?_
  refine x_aload_n C.1 dX12_types_23 1 rfl ?_
  refine x_getI C (N := 33) (i := 0) (by decide) rfl vc_X12 wx_X12 4 (by decide) wf_X12_137 rfl dX12_types_24 (a := (V 0 4) + 1) ((up2_n _ _ (Or.inl (by decide))).trans (up2_s _ _ _ _)) ?_
  refine x_iconst C.1 (n := 1) dX12_types_27 ?_
  refine x_iadd C.1 (v := ((V 0 4) + 1) + 1) rfl dX12_types_28 ?_
  refine x_putI C (N := 33) (i := 0) (by decide) rfl vc_X12 wx_X12 4 (by decide) wf_X12_137 tyX12 tyX12_ok nmX12 rfl (tyX12_ok 4 (by decide)) rfl dX12_types_29 rfl rfl ?_
  refine x_iinc C.1 (v := 1) (lv' := [(2, vI 1), (0, .ref (ad 0)), (1, vI x1)]) (by decide) dX12_types_32 0 rfl (by decide) rfl ?_
  refine x_goto C.1 (tgt := 2) dX12_types_35 (by decide) ?_
  refine x_iload_n C.1 dX12_types_2 0 rfl ?_
  refine x_if_lt_f C.1 (tgt := 38) dX12_types_3 (by decide) (by decide) (by decide) ?_
  refine x_aload_n C.1 dX12_types_6 1 rfl ?_
  refine x_getA C (N := 33) (i := 0) (by decide) rfl vc_X12 wx_X12 3 (by decide) wf_X12_19 (a := 4) rfl dX12_types_7 ?_
  refine x_aload_n C.1 dX12_types_10 1 rfl ?_
  refine x_getI C (N := 33) (i := 0) (by decide) rfl vc_X12 wx_X12 4 (by decide) wf_X12_137 rfl dX12_types_11 (a := ((V 0 4) + 1) + 1) (up2_s _ _ _ _) ?_
  refine x_iload_n C.1 dX12_types_14 2 rfl ?_
  refine x_bipush C.1 (n := 8) dX12_types_15 ?_
  refine x_iload_n C.1 dX12_types_17 0 rfl ?_
  refine x_imul C.1 (v := 8) (by decide) dX12_types_18 ?_
  refine x_ishr C.1 (v := iShr x1 8) rfl dX12_types_19 ?_
  refine x_i2b C.1 dX12_types_20 ?_
  refine x_bast C (N := 33) (i := 4) (q := ((V 0 4) + 1) + 1) (a := iB (iShr x1 8)) (by decide) rfl (by omega) (by decide) (iB_nar _) dX12_types_21 ?_
  refine x_aload_n C.1 dX12_types_22 1 rfl ?_
  refine x_aload_n C.1 dX12_types_23 1 rfl ?_
  refine x_getI C (N := 33) (i := 0) (by decide) rfl vc_X12 wx_X12 4 (by decide) wf_X12_137 rfl dX12_types_24 (a := ((V 0 4) + 1) + 1) ((up2_n _ _ (Or.inl (by decide))).trans (up2_s _ _ _ _)) ?_
  refine x_iconst C.1 (n := 1) dX12_types_27 ?_
  refine x_iadd C.1 (v := (((V 0 4) + 1) + 1) + 1) rfl dX12_types_28 ?_
  refine x_putI C (N := 33) (i := 0) (by decide) rfl vc_X12 wx_X12 4 (by decide) wf_X12_137 tyX12 tyX12_ok nmX12 rfl (tyX12_ok 4 (by decide)) rfl dX12_types_29 rfl rfl ?_
  refine x_iinc C.1 (v := 0) (lv' := [(2, vI 0), (0, .ref (ad 0)), (1, vI x1)]) (by decide) dX12_types_32 0 rfl (by decide) rfl ?_
  refine x_goto C.1 (tgt := 2) dX12_types_35 (by decide) ?_
  refine x_iload_n C.1 dX12_types_2 0 rfl ?_
  refine x_if_lt_f C.1 (tgt := 38) dX12_types_3 (by decide) (by decide) (by decide) ?_
  refine x_aload_n C.1 dX12_types_6 1 rfl ?_
  refine x_getA C (N := 33) (i := 0) (by decide) rfl vc_X12 wx_X12 3 (by decide) wf_X12_19 (a := 4) rfl dX12_types_7 ?_
  refine x_aload_n C.1 dX12_types_10 1 rfl ?_
  refine x_getI C (N := 33) (i := 0) (by decide) rfl vc_X12 wx_X12 4 (by decide) wf_X12_137 rfl dX12_types_11 (a := (((V 0 4) + 1) + 1) + 1) (up2_s _ _ _ _) ?_
  refine x_iload_n C.1 dX12_types_14 2 rfl ?_
  refine x_bipush C.1 (n := 8) dX12_types_15 ?_
  refine x_iload_n C.1 dX12_types_17 0 rfl ?_
  refine x_imul C.1 (v := 0) (by decide) dX12_types_18 ?_
  refine x_ishr C.1 (v := iShr x1 0) rfl dX12_types_19 ?_
  refine x_i2b C.1 dX12_types_20 ?_
  refine x_bast C (N := 33) (i := 4) (q := (((V 0 4) + 1) + 1) + 1) (a := iB (iShr x1 0)) (by decide) rfl (by omega) (by decide) (iB_nar _) dX12_types_21 ?_
  refine x_aload_n C.1 dX12_types_22 1 rfl ?_
  refine x_aload_n C.1 dX12_types_23 1 rfl ?_
  refine x_getI C (N := 33) (i := 0) (by decide) rfl vc_X12 wx_X12 4 (by decide) wf_X12_137 rfl dX12_types_24 (a := (((V 0 4) + 1) + 1) + 1) ((up2_n _ _ (Or.inl (by decide))).trans (up2_s _ _ _ _)) ?_
  refine x_iconst C.1 (n := 1) dX12_types_27 ?_
  refine x_iadd C.1 (v := ((((V 0 4) + 1) + 1) + 1) + 1) rfl dX12_types_28 ?_
  refine x_putI C (N := 33) (i := 0) (by decide) rfl vc_X12 wx_X12 4 (by decide) wf_X12_137 tyX12 tyX12_ok nmX12 rfl (tyX12_ok 4 (by decide)) rfl dX12_types_29 rfl rfl ?_
  refine x_iinc C.1 (v := (-1)) (lv' := [(2, vI (-1)), (0, .ref (ad 0)), (1, vI x1)]) (by decide) dX12_types_32 0 rfl (by decide) rfl ?_
  refine x_goto C.1 (tgt := 2) dX12_types_35 (by decide) ?_
  refine x_iload_n C.1 dX12_types_2 0 rfl ?_
  refine x_if_lt_t C.1 (tgt := 38) dX12_types_3 (by decide) (by decide) (by decide) ?_
  exact x_vret (S := xS) (post := fun u => u.1 0 4 = V 0 4 + 4 ∧ VR u.1 ∧ (∀ j, j ≠ 0 → j ≠ 4 → u.1 j = V j) ∧ (J, Rr) = u.2) (w1 := fun u : xS => MW cy ad u.1 u.2.1 u.2.2) C hr rfl dX12_types_38 ((up2 (up2 (up2 (up2 (up2 (up2 (up2 (up2 V 4 ((V 0 4).toNat) (iB (iShr x1 24))) 0 4 ((V 0 4) + 1)) 4 (((V 0 4) + 1).toNat) (iB (iShr x1 16))) 0 4 (((V 0 4) + 1) + 1)) 4 ((((V 0 4) + 1) + 1).toNat) (iB (iShr x1 8))) 0 4 ((((V 0 4) + 1) + 1) + 1)) 4 (((((V 0 4) + 1) + 1) + 1).toNat) (iB (iShr x1 0))) 0 4 (((((V 0 4) + 1) + 1) + 1) + 1)), J, Rr) rfl ⟨by simp [up2, up1] <;> omega, (VR_up (VR_up (VR_up (VR_up (VR_up (VR_up (VR_up (VR_up hV (xi_r _)) (by omega)) (xi_r _)) (by omega)) (xi_r _)) (by omega)) (xi_r _)) (by omega)), fun j h1 h2 => by simp [up2, h1, h2], rfl⟩
theorem hd_yX12_types : yX12_types.cls ≠ "java/lang/invoke/MethodHandle" ∧ yX12_types.cls ≠ "java/lang/invoke/VarHandle" ∧ (parseMethodDescriptor yX12_types.desc).map (fun d => d.parameters.length) = some 1 := by decide +kernel
theorem dX12_feed_0 : decode cX12_feed 0 = .ok (.aload_n 0, 1) := by decide +kernel
theorem dX12_feed_1 : decode cX12_feed 1 = .ok (.getfield 137, 3) := by decide +kernel
theorem dX12_feed_4 : decode cX12_feed 4 = .ok (.bipush 20, 2) := by decide +kernel
theorem dX12_feed_6 : decode cX12_feed 6 = .ok (.iadd, 1) := by decide +kernel
theorem dX12_feed_7 : decode cX12_feed 7 = .ok (.sipush 220, 3) := by decide +kernel
theorem dX12_feed_10 : decode cX12_feed 10 = .ok (.if_icmp .le 5, 3) := by decide +kernel
theorem dX12_feed_15 : decode cX12_feed 15 = .ok (.aload_n 0, 1) := by decide +kernel
theorem dX12_feed_16 : decode cX12_feed 16 = .ok (.iload_n 1, 1) := by decide +kernel
theorem dX12_feed_17 : decode cX12_feed 17 = .ok (.invokevirtual 140, 3) := by decide +kernel
theorem dX12_feed_20 : decode cX12_feed 20 = .ok (.aload_n 0, 1) := by decide +kernel
theorem dX12_feed_21 : decode cX12_feed 21 = .ok (.iload_n 2, 1) := by decide +kernel
theorem dX12_feed_22 : decode cX12_feed 22 = .ok (.invokevirtual 140, 3) := by decide +kernel
theorem dX12_feed_25 : decode cX12_feed 25 = .ok (.aload_n 0, 1) := by decide +kernel
theorem dX12_feed_26 : decode cX12_feed 26 = .ok (.iload_n 3, 1) := by decide +kernel
theorem dX12_feed_27 : decode cX12_feed 27 = .ok (.invokevirtual 140, 3) := by decide +kernel
theorem dX12_feed_30 : decode cX12_feed 30 = .ok (.aload_n 0, 1) := by decide +kernel
theorem dX12_feed_31 : decode cX12_feed 31 = .ok (.iload 4, 2) := by decide +kernel
theorem dX12_feed_33 : decode cX12_feed 33 = .ok (.invokevirtual 140, 3) := by decide +kernel
theorem dX12_feed_36 : decode cX12_feed 36 = .ok (.aload_n 0, 1) := by decide +kernel
theorem dX12_feed_37 : decode cX12_feed 37 = .ok (.iload 5, 2) := by decide +kernel
theorem dX12_feed_39 : decode cX12_feed 39 = .ok (.invokevirtual 140, 3) := by decide +kernel
theorem dX12_feed_42 : decode cX12_feed 42 = .ok (.aload_n 0, 1) := by decide +kernel
theorem dX12_feed_43 : decode cX12_feed 43 = .ok (.getfield 137, 3) := by decide +kernel
theorem dX12_feed_46 : decode cX12_feed 46 = .ok (.ireturn, 1) := by decide +kernel
set_option maxHeartbeats 4000000 in
set_option maxRecDepth 100000 in
theorem g_feed (l : Launch) (D : va_G) (cy : Nat → ClassId) (ad : Nat → Nat) (V J : Nat → Nat → Int) (Rr : Nat → Nat → Nat) (hV : VR V) (hJ : VJ J) (x1 x2 x3 x4 x5 : Int) (hx1 : R32 x1) (hx2 : R32 x2) (hx3 : R32 x3) (hx4 : R32 x4) (hx5 : R32 x5) (h76 : V 1 76 = 0) (h78 : V 1 78 = 0) (htp : V 0 4 = 0)  : xMi l D (xTY cy) yX12_feed cX12_feed 6 (some .int) 1 22 0 0 [.ref (ad 0), vI x1, vI x2, vI x3, vI x4, vI x5] (MW cy ad V J Rr) (fun u : xS => MW cy ad u.1 u.2.1 u.2.2) (fun r _ => r = 20) := by
  refine xMi.mk (lv0 := [(0, .ref (ad 0)), (1, vI x1), (2, vI x2), (3, vI x3), (4, vI x4), (5, vI x5)]) (by decide) rfl (Nat.le_of_ble_eq_true rfl) (fun p e s m below meth c A C hr hnm hAe => ?_)
  have C : xC2 p s m _ meth c D A s.heap 6 cX12_feed RX12 (xTY cy) := C
  refine x_aload_n C.1 dX12_feed_0 0 rfl ?_
  refine x_getI C (N := 33) (i := 0) (by decide) rfl vc_X12 wx_X12 4 (by decide) wf_X12_137 rfl dX12_feed_1 (a := 0) htp ?_
  refine x_bipush C.1 (n := 20) dX12_feed_4 ?_
  refine x_iadd C.1 (v := 20) (by decide) dX12_feed_6 ?_
  refine x_sipush C.1 (n := 220) dX12_feed_7 ?_
  refine x_icmp_le_t C.1 (tgt := 15) dX12_feed_10 (by decide) (by decide) (by decide) (by decide) ?_
  refine x_aload_n C.1 dX12_feed_15 0 rfl ?_
  refine x_iload_n C.1 dX12_feed_16 1 rfl ?_
  refine x_callVv C (As := [vI x1]) (rest := []) 0 (xw_at (N := 33) (i := 0) (by decide) rfl) vc_X12 (c_types l D cy ad V J Rr hV hJ x1 hx1 (by omega)) (l1 := []) (l2 := []) (List.append_nil _).symm (w2 := fun u : xS => MW cy ad u.1 u.2.1 u.2.2) (fun _ => List.append_nil _) rfl wm_yX12_types wn_X12 wl_X12_140 wi_yX12_types we_yX12_types hd_yX12_types rfl ⟨Nat.le_of_ble_eq_true rfl, Nat.le_of_ble_eq_true rfl⟩ (Nat.le_of_ble_eq_true rfl) ⟨Nat.le_of_ble_eq_true rfl, Nat.le_of_ble_eq_true rfl⟩ dX12_feed_17 (fun u1 h1 => ?_)
  obtain ⟨zV1, zJ1, zR1⟩ := u1
  obtain ⟨hza1, hzb1, hzc1, hzd1⟩ := h1
  obtain ⟨rfl, rfl⟩ := Prod.mk.inj hzd1
  try dsimp only at hza1 hzb1 ⊢
  refine x_aload_n C.1 dX12_feed_20 0 rfl ?_
  refine x_iload_n C.1 dX12_feed_21 2 rfl ?_
  refine x_callVv C (As := [vI x2]) (rest := []) 0 (xw_at (N := 33) (i := 0) (by decide) rfl) vc_X12 (c_types l D cy ad zV1 J Rr hzb1 hJ x2 hx2 (by omega)) (l1 := []) (l2 := []) (List.append_nil _).symm (w2 := fun u : xS => MW cy ad u.1 u.2.1 u.2.2) (fun _ => List.append_nil _) rfl wm_yX12_types wn_X12 wl_X12_140 wi_yX12_types we_yX12_types hd_yX12_types rfl ⟨Nat.le_of_ble_eq_true rfl, Nat.le_of_ble_eq_true rfl⟩ (Nat.le_of_ble_eq_true rfl) ⟨Nat.le_of_ble_eq_true rfl, Nat.le_of_ble_eq_true rfl⟩ dX12_feed_22 (fun u2 h2 => ?_)
  obtain ⟨zV2, zJ2, zR2⟩ := u2
  obtain ⟨hza2, hzb2, hzc2, hzd2⟩ := h2
  obtain ⟨rfl, rfl⟩ := Prod.mk.inj hzd2
  try dsimp only at hza2 hzb2 ⊢
  refine x_aload_n C.1 dX12_feed_25 0 rfl ?_
  refine x_iload_n C.1 dX12_feed_26 3 rfl ?_
  refine x_callVv C (As := [vI x3]) (rest := []) 0 (xw_at (N := 33) (i := 0) (by decide) rfl) vc_X12 (c_types l D cy ad zV2 J Rr hzb2 hJ x3 hx3 (by omega)) (l1 := []) (l2 := []) (List.append_nil _).symm (w2 := fun u : xS => MW cy ad u.1 u.2.1 u.2.2) (fun _ => List.append_nil _) rfl wm_yX12_types wn_X12 wl_X12_140 wi_yX12_types we_yX12_types hd_yX12_types rfl ⟨Nat.le_of_ble_eq_true rfl, Nat.le_of_ble_eq_true rfl⟩ (Nat.le_of_ble_eq_true rfl) ⟨Nat.le_of_ble_eq_true rfl, Nat.le_of_ble_eq_true rfl⟩ dX12_feed_27 (fun u3 h3 => ?_)
  obtain ⟨zV3, zJ3, zR3⟩ := u3
  obtain ⟨hza3, hzb3, hzc3, hzd3⟩ := h3
  obtain ⟨rfl, rfl⟩ := Prod.mk.inj hzd3
  try dsimp only at hza3 hzb3 ⊢
  refine x_aload_n C.1 dX12_feed_30 0 rfl ?_
  refine x_iload C.1 dX12_feed_31 4 rfl ?_
  refine x_callVv C (As := [vI x4]) (rest := []) 0 (xw_at (N := 33) (i := 0) (by decide) rfl) vc_X12 (c_types l D cy ad zV3 J Rr hzb3 hJ x4 hx4 (by omega)) (l1 := []) (l2 := []) (List.append_nil _).symm (w2 := fun u : xS => MW cy ad u.1 u.2.1 u.2.2) (fun _ => List.append_nil _) rfl wm_yX12_types wn_X12 wl_X12_140 wi_yX12_types we_yX12_types hd_yX12_types rfl ⟨Nat.le_of_ble_eq_true rfl, Nat.le_of_ble_eq_true rfl⟩ (Nat.le_of_ble_eq_true rfl) ⟨Nat.le_of_ble_eq_true rfl, Nat.le_of_ble_eq_true rfl⟩ dX12_feed_33 (fun u4 h4 => ?_)
  obtain ⟨zV4, zJ4, zR4⟩ := u4
  obtain ⟨hza4, hzb4, hzc4, hzd4⟩ := h4
  obtain ⟨rfl, rfl⟩ := Prod.mk.inj hzd4
  try dsimp only at hza4 hzb4 ⊢
  refine x_aload_n C.1 dX12_feed_36 0 rfl ?_
  refine x_iload C.1 dX12_feed_37 5 rfl ?_
  refine x_callVv C (As := [vI x5]) (rest := []) 0 (xw_at (N := 33) (i := 0) (by decide) rfl) vc_X12 (c_types l D cy ad zV4 J Rr hzb4 hJ x5 hx5 (by omega)) (l1 := []) (l2 := []) (List.append_nil _).symm (w2 := fun u : xS => MW cy ad u.1 u.2.1 u.2.2) (fun _ => List.append_nil _) rfl wm_yX12_types wn_X12 wl_X12_140 wi_yX12_types we_yX12_types hd_yX12_types rfl ⟨Nat.le_of_ble_eq_true rfl, Nat.le_of_ble_eq_true rfl⟩ (Nat.le_of_ble_eq_true rfl) ⟨Nat.le_of_ble_eq_true rfl, Nat.le_of_ble_eq_true rfl⟩ dX12_feed_39 (fun u5 h5 => ?_)
  obtain ⟨zV5, zJ5, zR5⟩ := u5
  obtain ⟨hza5, hzb5, hzc5, hzd5⟩ := h5
  obtain ⟨rfl, rfl⟩ := Prod.mk.inj hzd5
  try dsimp only at hza5 hzb5 ⊢
  refine x_aload_n C.1 dX12_feed_42 0 rfl ?_
  refine x_getI C (N := 33) (i := 0) (by decide) rfl vc_X12 wx_X12 4 (by decide) wf_X12_137 rfl dX12_feed_43 (a := 20) (by omega) ?_
  exact x_iret (S := xS) (post := fun r _ => r = 20) (w1 := fun u : xS => MW cy ad u.1 u.2.1 u.2.2) (a := 20) C hr rfl dX12_feed_46 (by decide) (zV5, J, Rr) rfl (by omega)
theorem dX12_dayGoes_0 : decode cX12_dayGoes 0 = .ok (.iconst 0, 1) := by decide +kernel
theorem dX12_dayGoes_1 : decode cX12_dayGoes 1 = .ok (.istore_n 1, 1) := by decide +kernel
theorem dX12_dayGoes_2 : decode cX12_dayGoes 2 = .ok (.iload_n 1, 1) := by decide +kernel
theorem dX12_dayGoes_3 : decode cX12_dayGoes 3 = .ok (.bipush 8, 2) := by decide +kernel
theorem dX12_dayGoes_5 : decode cX12_dayGoes 5 = .ok (.if_icmp .ge 63, 3) := by decide +kernel
theorem dX12_dayGoes_8 : decode cX12_dayGoes 8 = .ok (.aload_n 0, 1) := by decide +kernel
theorem dX12_dayGoes_9 : decode cX12_dayGoes 9 = .ok (.iload_n 1, 1) := by decide +kernel
theorem dX12_dayGoes_10 : decode cX12_dayGoes 10 = .ok (.invokevirtual 259, 3) := by decide +kernel
theorem dX12_dayGoes_13 : decode cX12_dayGoes 13 = .ok (.ifCond .eq 49, 3) := by decide +kernel
theorem dX12_dayGoes_62 : decode cX12_dayGoes 62 = .ok (.iinc 1 1, 3) := by decide +kernel
theorem dX12_dayGoes_65 : decode cX12_dayGoes 65 = .ok (.goto (-63), 3) := by decide +kernel
theorem dX12_dayGoes_68 : decode cX12_dayGoes 68 = .ok (.iconst 0, 1) := by decide +kernel
theorem dX12_dayGoes_69 : decode cX12_dayGoes 69 = .ok (.istore_n 1, 1) := by decide +kernel
theorem dX12_dayGoes_70 : decode cX12_dayGoes 70 = .ok (.iload_n 1, 1) := by decide +kernel
theorem dX12_dayGoes_71 : decode cX12_dayGoes 71 = .ok (.iconst 4, 1) := by decide +kernel
theorem dX12_dayGoes_72 : decode cX12_dayGoes 72 = .ok (.if_icmp .ge 58, 3) := by decide +kernel
theorem dX12_dayGoes_75 : decode cX12_dayGoes 75 = .ok (.aload_n 0, 1) := by decide +kernel
theorem dX12_dayGoes_76 : decode cX12_dayGoes 76 = .ok (.iload_n 1, 1) := by decide +kernel
theorem dX12_dayGoes_77 : decode cX12_dayGoes 77 = .ok (.invokevirtual 130, 3) := by decide +kernel
theorem dX12_dayGoes_80 : decode cX12_dayGoes 80 = .ok (.ifCond .ne 6, 3) := by decide +kernel
theorem dX12_dayGoes_83 : decode cX12_dayGoes 83 = .ok (.goto 41, 3) := by decide +kernel
theorem dX12_dayGoes_124 : decode cX12_dayGoes 124 = .ok (.iinc 1 1, 3) := by decide +kernel
theorem dX12_dayGoes_127 : decode cX12_dayGoes 127 = .ok (.goto (-57), 3) := by decide +kernel
theorem dX12_dayGoes_130 : decode cX12_dayGoes 130 = .ok (.aload_n 0, 1) := by decide +kernel
theorem dX12_dayGoes_131 : decode cX12_dayGoes 131 = .ok (.getfield 7, 3) := by decide +kernel
theorem dX12_dayGoes_134 : decode cX12_dayGoes 134 = .ok (.bipush 79, 2) := by decide +kernel
theorem dX12_dayGoes_136 : decode cX12_dayGoes 136 = .ok (.aload_n 0, 1) := by decide +kernel
theorem dX12_dayGoes_137 : decode cX12_dayGoes 137 = .ok (.getfield 7, 3) := by decide +kernel
theorem dX12_dayGoes_140 : decode cX12_dayGoes 140 = .ok (.bipush 79, 2) := by decide +kernel
theorem dX12_dayGoes_142 : decode cX12_dayGoes 142 = .ok (.iaload, 1) := by decide +kernel
theorem dX12_dayGoes_143 : decode cX12_dayGoes 143 = .ok (.iconst 1, 1) := by decide +kernel
theorem dX12_dayGoes_144 : decode cX12_dayGoes 144 = .ok (.iadd, 1) := by decide +kernel
theorem dX12_dayGoes_145 : decode cX12_dayGoes 145 = .ok (.iastore, 1) := by decide +kernel
theorem dX12_dayGoes_146 : decode cX12_dayGoes 146 = .ok (.return_, 1) := by decide +kernel
set_option maxHeartbeats 4000000 in
set_option maxRecDepth 100000 in
theorem g_dayGoes (l : Launch) (D : va_G) (cy : Nat → ClassId) (ad : Nat → Nat) (V J : Nat → Nat → Int) (Rr : Nat → Nat → Nat) (hV : VR V) (hJ : VJ J)  (h76 : V 1 76 = 0) (h78 : V 1 78 = 0) (htp : V 0 4 = 0) (hdy : 0 ≤ V 1 79 ∧ V 1 79 < 9999) : xMv l D (xTY cy) yX12_dayGoes cX12_dayGoes 3 none 3 63 0 0 [.ref (ad 0)] (MW cy ad V J Rr) (fun u : xS => MW cy ad u.1 u.2.1 u.2.2) (fun u => u = (up2 V 1 79 (V 1 79 + 1), J, Rr)) := by
  refine xMv.mk (lv0 := [(0, .ref (ad 0))]) (by decide) rfl (Nat.le_of_ble_eq_true rfl) (fun p e s m below meth c A C hr hnm hAe => ?_)
  have C : xC2 p s m _ meth c D A s.heap 3 cX12_dayGoes RX12 (xTY cy) := C
  refine x_iconst C.1 (n := 0) dX12_dayGoes_0 ?_
  refine x_istore_n C.1 (lv' := [(1, vI 0), (0, .ref (ad 0))]) dX12_dayGoes_1 (by decide) rfl ?_
  refine x_iload_n C.1 dX12_dayGoes_2 0 rfl ?_
  refine x_bipush C.1 (n := 8) dX12_dayGoes_3 ?_
  refine x_icmp_ge_f C.1 (tgt := 68) dX12_dayGoes_5 (by decide) (by decide) (by decide) (by decide) ?_
  refine x_aload_n C.1 dX12_dayGoes_8 1 rfl ?_
  refine x_iload_n C.1 dX12_dayGoes_9 0 rfl ?_
  refine x_callVi C (As := [vI 0]) (rest := []) 0 (xw_at (N := 33) (i := 0) (by decide) rfl) vc_X12 (g_isPerson l D cy ad V J Rr hV hJ 0 (by decide) h76 h78 htp) (l1 := []) (l2 := []) (List.append_nil _).symm (w2 := fun _ => MW cy ad V J Rr) (fun _ => List.append_nil _) rfl wm_yX12_isPerson wn_X12 wl_X12_259 wi_yX12_isPerson we_yX12_isPerson hd_yX12_isPerson rfl ⟨Nat.le_of_ble_eq_true rfl, Nat.le_of_ble_eq_true rfl⟩ (Nat.le_of_ble_eq_true rfl) ⟨Nat.le_of_ble_eq_true rfl, Nat.le_of_ble_eq_true rfl⟩ dX12_dayGoes_10 (fun r1 u1 hr1 h1 => ?_)
  obtain rfl := h1
  refine x_if_eq_t C.1 (tgt := 62) dX12_dayGoes_13 (by decide) (by decide) (by decide) ?_
  refine x_iinc C.1 (v := 1) (lv' := [(1, vI 1), (0, .ref (ad 0))]) (by decide) dX12_dayGoes_62 0 rfl (by decide) rfl ?_
  refine x_goto C.1 (tgt := 2) dX12_dayGoes_65 (by decide) ?_
  refine x_iload_n C.1 dX12_dayGoes_2 0 rfl ?_
  refine x_bipush C.1 (n := 8) dX12_dayGoes_3 ?_
  refine x_icmp_ge_f C.1 (tgt := 68) dX12_dayGoes_5 (by decide) (by decide) (by decide) (by decide) ?_
  refine x_aload_n C.1 dX12_dayGoes_8 1 rfl ?_
  refine x_iload_n C.1 dX12_dayGoes_9 0 rfl ?_
  refine x_callVi C (As := [vI 1]) (rest := []) 0 (xw_at (N := 33) (i := 0) (by decide) rfl) vc_X12 (g_isPerson l D cy ad V J Rr hV hJ 1 (by decide) h76 h78 htp) (l1 := []) (l2 := []) (List.append_nil _).symm (w2 := fun _ => MW cy ad V J Rr) (fun _ => List.append_nil _) rfl wm_yX12_isPerson wn_X12 wl_X12_259 wi_yX12_isPerson we_yX12_isPerson hd_yX12_isPerson rfl ⟨Nat.le_of_ble_eq_true rfl, Nat.le_of_ble_eq_true rfl⟩ (Nat.le_of_ble_eq_true rfl) ⟨Nat.le_of_ble_eq_true rfl, Nat.le_of_ble_eq_true rfl⟩ dX12_dayGoes_10 (fun r2 u2 hr2 h2 => ?_)
  obtain rfl := h2
  refine x_if_eq_t C.1 (tgt := 62) dX12_dayGoes_13 (by decide) (by decide) (by decide) ?_
  refine x_iinc C.1 (v := 2) (lv' := [(1, vI 2), (0, .ref (ad 0))]) (by decide) dX12_dayGoes_62 0 rfl (by decide) rfl ?_
  refine x_goto C.1 (tgt := 2) dX12_dayGoes_65 (by decide) ?_
  refine x_iload_n C.1 dX12_dayGoes_2 0 rfl ?_
  refine x_bipush C.1 (n := 8) dX12_dayGoes_3 ?_
  refine x_icmp_ge_f C.1 (tgt := 68) dX12_dayGoes_5 (by decide) (by decide) (by decide) (by decide) ?_
  refine x_aload_n C.1 dX12_dayGoes_8 1 rfl ?_
  refine x_iload_n C.1 dX12_dayGoes_9 0 rfl ?_
  refine x_callVi C (As := [vI 2]) (rest := []) 0 (xw_at (N := 33) (i := 0) (by decide) rfl) vc_X12 (g_isPerson l D cy ad V J Rr hV hJ 2 (by decide) h76 h78 htp) (l1 := []) (l2 := []) (List.append_nil _).symm (w2 := fun _ => MW cy ad V J Rr) (fun _ => List.append_nil _) rfl wm_yX12_isPerson wn_X12 wl_X12_259 wi_yX12_isPerson we_yX12_isPerson hd_yX12_isPerson rfl ⟨Nat.le_of_ble_eq_true rfl, Nat.le_of_ble_eq_true rfl⟩ (Nat.le_of_ble_eq_true rfl) ⟨Nat.le_of_ble_eq_true rfl, Nat.le_of_ble_eq_true rfl⟩ dX12_dayGoes_10 (fun r3 u3 hr3 h3 => ?_)
  obtain rfl := h3
  refine x_if_eq_t C.1 (tgt := 62) dX12_dayGoes_13 (by decide) (by decide) (by decide) ?_
  refine x_iinc C.1 (v := 3) (lv' := [(1, vI 3), (0, .ref (ad 0))]) (by decide) dX12_dayGoes_62 0 rfl (by decide) rfl ?_
  refine x_goto C.1 (tgt := 2) dX12_dayGoes_65 (by decide) ?_
  refine x_iload_n C.1 dX12_dayGoes_2 0 rfl ?_
  refine x_bipush C.1 (n := 8) dX12_dayGoes_3 ?_
  refine x_icmp_ge_f C.1 (tgt := 68) dX12_dayGoes_5 (by decide) (by decide) (by decide) (by decide) ?_
  refine x_aload_n C.1 dX12_dayGoes_8 1 rfl ?_
  refine x_iload_n C.1 dX12_dayGoes_9 0 rfl ?_
  refine x_callVi C (As := [vI 3]) (rest := []) 0 (xw_at (N := 33) (i := 0) (by decide) rfl) vc_X12 (g_isPerson l D cy ad V J Rr hV hJ 3 (by decide) h76 h78 htp) (l1 := []) (l2 := []) (List.append_nil _).symm (w2 := fun _ => MW cy ad V J Rr) (fun _ => List.append_nil _) rfl wm_yX12_isPerson wn_X12 wl_X12_259 wi_yX12_isPerson we_yX12_isPerson hd_yX12_isPerson rfl ⟨Nat.le_of_ble_eq_true rfl, Nat.le_of_ble_eq_true rfl⟩ (Nat.le_of_ble_eq_true rfl) ⟨Nat.le_of_ble_eq_true rfl, Nat.le_of_ble_eq_true rfl⟩ dX12_dayGoes_10 (fun r4 u4 hr4 h4 => ?_)
  obtain rfl := h4
  refine x_if_eq_t C.1 (tgt := 62) dX12_dayGoes_13 (by decide) (by decide) (by decide) ?_
  refine x_iinc C.1 (v := 4) (lv' := [(1, vI 4), (0, .ref (ad 0))]) (by decide) dX12_dayGoes_62 0 rfl (by decide) rfl ?_
  refine x_goto C.1 (tgt := 2) dX12_dayGoes_65 (by decide) ?_
  refine x_iload_n C.1 dX12_dayGoes_2 0 rfl ?_
  refine x_bipush C.1 (n := 8) dX12_dayGoes_3 ?_
  refine x_icmp_ge_f C.1 (tgt := 68) dX12_dayGoes_5 (by decide) (by decide) (by decide) (by decide) ?_
  refine x_aload_n C.1 dX12_dayGoes_8 1 rfl ?_
  refine x_iload_n C.1 dX12_dayGoes_9 0 rfl ?_
  refine x_callVi C (As := [vI 4]) (rest := []) 0 (xw_at (N := 33) (i := 0) (by decide) rfl) vc_X12 (g_isPerson l D cy ad V J Rr hV hJ 4 (by decide) h76 h78 htp) (l1 := []) (l2 := []) (List.append_nil _).symm (w2 := fun _ => MW cy ad V J Rr) (fun _ => List.append_nil _) rfl wm_yX12_isPerson wn_X12 wl_X12_259 wi_yX12_isPerson we_yX12_isPerson hd_yX12_isPerson rfl ⟨Nat.le_of_ble_eq_true rfl, Nat.le_of_ble_eq_true rfl⟩ (Nat.le_of_ble_eq_true rfl) ⟨Nat.le_of_ble_eq_true rfl, Nat.le_of_ble_eq_true rfl⟩ dX12_dayGoes_10 (fun r5 u5 hr5 h5 => ?_)
  obtain rfl := h5
  refine x_if_eq_t C.1 (tgt := 62) dX12_dayGoes_13 (by decide) (by decide) (by decide) ?_
  refine x_iinc C.1 (v := 5) (lv' := [(1, vI 5), (0, .ref (ad 0))]) (by decide) dX12_dayGoes_62 0 rfl (by decide) rfl ?_
  refine x_goto C.1 (tgt := 2) dX12_dayGoes_65 (by decide) ?_
  refine x_iload_n C.1 dX12_dayGoes_2 0 rfl ?_
  refine x_bipush C.1 (n := 8) dX12_dayGoes_3 ?_
  refine x_icmp_ge_f C.1 (tgt := 68) dX12_dayGoes_5 (by decide) (by decide) (by decide) (by decide) ?_
  refine x_aload_n C.1 dX12_dayGoes_8 1 rfl ?_
  refine x_iload_n C.1 dX12_dayGoes_9 0 rfl ?_
  refine x_callVi C (As := [vI 5]) (rest := []) 0 (xw_at (N := 33) (i := 0) (by decide) rfl) vc_X12 (g_isPerson l D cy ad V J Rr hV hJ 5 (by decide) h76 h78 htp) (l1 := []) (l2 := []) (List.append_nil _).symm (w2 := fun _ => MW cy ad V J Rr) (fun _ => List.append_nil _) rfl wm_yX12_isPerson wn_X12 wl_X12_259 wi_yX12_isPerson we_yX12_isPerson hd_yX12_isPerson rfl ⟨Nat.le_of_ble_eq_true rfl, Nat.le_of_ble_eq_true rfl⟩ (Nat.le_of_ble_eq_true rfl) ⟨Nat.le_of_ble_eq_true rfl, Nat.le_of_ble_eq_true rfl⟩ dX12_dayGoes_10 (fun r6 u6 hr6 h6 => ?_)
  obtain rfl := h6
  refine x_if_eq_t C.1 (tgt := 62) dX12_dayGoes_13 (by decide) (by decide) (by decide) ?_
  refine x_iinc C.1 (v := 6) (lv' := [(1, vI 6), (0, .ref (ad 0))]) (by decide) dX12_dayGoes_62 0 rfl (by decide) rfl ?_
  refine x_goto C.1 (tgt := 2) dX12_dayGoes_65 (by decide) ?_
  refine x_iload_n C.1 dX12_dayGoes_2 0 rfl ?_
  refine x_bipush C.1 (n := 8) dX12_dayGoes_3 ?_
  refine x_icmp_ge_f C.1 (tgt := 68) dX12_dayGoes_5 (by decide) (by decide) (by decide) (by decide) ?_
  refine x_aload_n C.1 dX12_dayGoes_8 1 rfl ?_
  refine x_iload_n C.1 dX12_dayGoes_9 0 rfl ?_
  refine x_callVi C (As := [vI 6]) (rest := []) 0 (xw_at (N := 33) (i := 0) (by decide) rfl) vc_X12 (g_isPerson l D cy ad V J Rr hV hJ 6 (by decide) h76 h78 htp) (l1 := []) (l2 := []) (List.append_nil _).symm (w2 := fun _ => MW cy ad V J Rr) (fun _ => List.append_nil _) rfl wm_yX12_isPerson wn_X12 wl_X12_259 wi_yX12_isPerson we_yX12_isPerson hd_yX12_isPerson rfl ⟨Nat.le_of_ble_eq_true rfl, Nat.le_of_ble_eq_true rfl⟩ (Nat.le_of_ble_eq_true rfl) ⟨Nat.le_of_ble_eq_true rfl, Nat.le_of_ble_eq_true rfl⟩ dX12_dayGoes_10 (fun r7 u7 hr7 h7 => ?_)
  obtain rfl := h7
  refine x_if_eq_t C.1 (tgt := 62) dX12_dayGoes_13 (by decide) (by decide) (by decide) ?_
  refine x_iinc C.1 (v := 7) (lv' := [(1, vI 7), (0, .ref (ad 0))]) (by decide) dX12_dayGoes_62 0 rfl (by decide) rfl ?_
  refine x_goto C.1 (tgt := 2) dX12_dayGoes_65 (by decide) ?_
  refine x_iload_n C.1 dX12_dayGoes_2 0 rfl ?_
  refine x_bipush C.1 (n := 8) dX12_dayGoes_3 ?_
  refine x_icmp_ge_f C.1 (tgt := 68) dX12_dayGoes_5 (by decide) (by decide) (by decide) (by decide) ?_
  refine x_aload_n C.1 dX12_dayGoes_8 1 rfl ?_
  refine x_iload_n C.1 dX12_dayGoes_9 0 rfl ?_
  refine x_callVi C (As := [vI 7]) (rest := []) 0 (xw_at (N := 33) (i := 0) (by decide) rfl) vc_X12 (g_isPerson l D cy ad V J Rr hV hJ 7 (by decide) h76 h78 htp) (l1 := []) (l2 := []) (List.append_nil _).symm (w2 := fun _ => MW cy ad V J Rr) (fun _ => List.append_nil _) rfl wm_yX12_isPerson wn_X12 wl_X12_259 wi_yX12_isPerson we_yX12_isPerson hd_yX12_isPerson rfl ⟨Nat.le_of_ble_eq_true rfl, Nat.le_of_ble_eq_true rfl⟩ (Nat.le_of_ble_eq_true rfl) ⟨Nat.le_of_ble_eq_true rfl, Nat.le_of_ble_eq_true rfl⟩ dX12_dayGoes_10 (fun r8 u8 hr8 h8 => ?_)
  obtain rfl := h8
  refine x_if_eq_t C.1 (tgt := 62) dX12_dayGoes_13 (by decide) (by decide) (by decide) ?_
  refine x_iinc C.1 (v := 8) (lv' := [(1, vI 8), (0, .ref (ad 0))]) (by decide) dX12_dayGoes_62 0 rfl (by decide) rfl ?_
  refine x_goto C.1 (tgt := 2) dX12_dayGoes_65 (by decide) ?_
  refine x_iload_n C.1 dX12_dayGoes_2 0 rfl ?_
  refine x_bipush C.1 (n := 8) dX12_dayGoes_3 ?_
  refine x_icmp_ge_t C.1 (tgt := 68) dX12_dayGoes_5 (by decide) (by decide) (by decide) (by decide) ?_
  refine x_iconst C.1 (n := 0) dX12_dayGoes_68 ?_
  refine x_istore_n C.1 (lv' := [(1, vI 0), (0, .ref (ad 0))]) dX12_dayGoes_69 (by decide) rfl ?_
  refine x_iload_n C.1 dX12_dayGoes_70 0 rfl ?_
  refine x_iconst C.1 (n := 4) dX12_dayGoes_71 ?_
  refine x_icmp_ge_f C.1 (tgt := 130) dX12_dayGoes_72 (by decide) (by decide) (by decide) (by decide) ?_
  refine x_aload_n C.1 dX12_dayGoes_75 1 rfl ?_
  refine x_iload_n C.1 dX12_dayGoes_76 0 rfl ?_
  refine x_callVi C (As := [vI 0]) (rest := []) 0 (xw_at (N := 33) (i := 0) (by decide) rfl) vc_X12 (g_lives l D cy ad V J Rr hV hJ 0 (by decide) h76 h78 htp) (l1 := []) (l2 := []) (List.append_nil _).symm (w2 := fun _ => MW cy ad V J Rr) (fun _ => List.append_nil _) rfl wm_yX12_lives wn_X12 wl_X12_130 wi_yX12_lives we_yX12_lives hd_yX12_lives rfl ⟨Nat.le_of_ble_eq_true rfl, Nat.le_of_ble_eq_true rfl⟩ (Nat.le_of_ble_eq_true rfl) ⟨Nat.le_of_ble_eq_true rfl, Nat.le_of_ble_eq_true rfl⟩ dX12_dayGoes_77 (fun r9 u9 hr9 h9 => ?_)
  obtain rfl := h9
  refine x_if_ne_f C.1 (tgt := 86) dX12_dayGoes_80 (by decide) (by decide) (by decide) ?_
  refine x_goto C.1 (tgt := 124) dX12_dayGoes_83 (by decide) ?_
  refine x_iinc C.1 (v := 1) (lv' := [(1, vI 1), (0, .ref (ad 0))]) (by decide) dX12_dayGoes_124 0 rfl (by decide) rfl ?_
  refine x_goto C.1 (tgt := 70) dX12_dayGoes_127 (by decide) ?_
  refine x_iload_n C.1 dX12_dayGoes_70 0 rfl ?_
  refine x_iconst C.1 (n := 4) dX12_dayGoes_71 ?_
  refine x_icmp_ge_f C.1 (tgt := 130) dX12_dayGoes_72 (by decide) (by decide) (by decide) (by decide) ?_
  refine x_aload_n C.1 dX12_dayGoes_75 1 rfl ?_
  refine x_iload_n C.1 dX12_dayGoes_76 0 rfl ?_
  refine x_callVi C (As := [vI 1]) (rest := []) 0 (xw_at (N := 33) (i := 0) (by decide) rfl) vc_X12 (g_lives l D cy ad V J Rr hV hJ 1 (by decide) h76 h78 htp) (l1 := []) (l2 := []) (List.append_nil _).symm (w2 := fun _ => MW cy ad V J Rr) (fun _ => List.append_nil _) rfl wm_yX12_lives wn_X12 wl_X12_130 wi_yX12_lives we_yX12_lives hd_yX12_lives rfl ⟨Nat.le_of_ble_eq_true rfl, Nat.le_of_ble_eq_true rfl⟩ (Nat.le_of_ble_eq_true rfl) ⟨Nat.le_of_ble_eq_true rfl, Nat.le_of_ble_eq_true rfl⟩ dX12_dayGoes_77 (fun r10 u10 hr10 h10 => ?_)
  obtain rfl := h10
  refine x_if_ne_f C.1 (tgt := 86) dX12_dayGoes_80 (by decide) (by decide) (by decide) ?_
  refine x_goto C.1 (tgt := 124) dX12_dayGoes_83 (by decide) ?_
  refine x_iinc C.1 (v := 2) (lv' := [(1, vI 2), (0, .ref (ad 0))]) (by decide) dX12_dayGoes_124 0 rfl (by decide) rfl ?_
  refine x_goto C.1 (tgt := 70) dX12_dayGoes_127 (by decide) ?_
  refine x_iload_n C.1 dX12_dayGoes_70 0 rfl ?_
  refine x_iconst C.1 (n := 4) dX12_dayGoes_71 ?_
  refine x_icmp_ge_f C.1 (tgt := 130) dX12_dayGoes_72 (by decide) (by decide) (by decide) (by decide) ?_
  refine x_aload_n C.1 dX12_dayGoes_75 1 rfl ?_
  refine x_iload_n C.1 dX12_dayGoes_76 0 rfl ?_
  refine x_callVi C (As := [vI 2]) (rest := []) 0 (xw_at (N := 33) (i := 0) (by decide) rfl) vc_X12 (g_lives l D cy ad V J Rr hV hJ 2 (by decide) h76 h78 htp) (l1 := []) (l2 := []) (List.append_nil _).symm (w2 := fun _ => MW cy ad V J Rr) (fun _ => List.append_nil _) rfl wm_yX12_lives wn_X12 wl_X12_130 wi_yX12_lives we_yX12_lives hd_yX12_lives rfl ⟨Nat.le_of_ble_eq_true rfl, Nat.le_of_ble_eq_true rfl⟩ (Nat.le_of_ble_eq_true rfl) ⟨Nat.le_of_ble_eq_true rfl, Nat.le_of_ble_eq_true rfl⟩ dX12_dayGoes_77 (fun r11 u11 hr11 h11 => ?_)
  obtain rfl := h11
  refine x_if_ne_f C.1 (tgt := 86) dX12_dayGoes_80 (by decide) (by decide) (by decide) ?_
  refine x_goto C.1 (tgt := 124) dX12_dayGoes_83 (by decide) ?_
  refine x_iinc C.1 (v := 3) (lv' := [(1, vI 3), (0, .ref (ad 0))]) (by decide) dX12_dayGoes_124 0 rfl (by decide) rfl ?_
  refine x_goto C.1 (tgt := 70) dX12_dayGoes_127 (by decide) ?_
  refine x_iload_n C.1 dX12_dayGoes_70 0 rfl ?_
  refine x_iconst C.1 (n := 4) dX12_dayGoes_71 ?_
  refine x_icmp_ge_f C.1 (tgt := 130) dX12_dayGoes_72 (by decide) (by decide) (by decide) (by decide) ?_
  refine x_aload_n C.1 dX12_dayGoes_75 1 rfl ?_
  refine x_iload_n C.1 dX12_dayGoes_76 0 rfl ?_
  refine x_callVi C (As := [vI 3]) (rest := []) 0 (xw_at (N := 33) (i := 0) (by decide) rfl) vc_X12 (g_lives l D cy ad V J Rr hV hJ 3 (by decide) h76 h78 htp) (l1 := []) (l2 := []) (List.append_nil _).symm (w2 := fun _ => MW cy ad V J Rr) (fun _ => List.append_nil _) rfl wm_yX12_lives wn_X12 wl_X12_130 wi_yX12_lives we_yX12_lives hd_yX12_lives rfl ⟨Nat.le_of_ble_eq_true rfl, Nat.le_of_ble_eq_true rfl⟩ (Nat.le_of_ble_eq_true rfl) ⟨Nat.le_of_ble_eq_true rfl, Nat.le_of_ble_eq_true rfl⟩ dX12_dayGoes_77 (fun r12 u12 hr12 h12 => ?_)
  obtain rfl := h12
  refine x_if_ne_f C.1 (tgt := 86) dX12_dayGoes_80 (by decide) (by decide) (by decide) ?_
  refine x_goto C.1 (tgt := 124) dX12_dayGoes_83 (by decide) ?_
  refine x_iinc C.1 (v := 4) (lv' := [(1, vI 4), (0, .ref (ad 0))]) (by decide) dX12_dayGoes_124 0 rfl (by decide) rfl ?_
  refine x_goto C.1 (tgt := 70) dX12_dayGoes_127 (by decide) ?_
  refine x_iload_n C.1 dX12_dayGoes_70 0 rfl ?_
  refine x_iconst C.1 (n := 4) dX12_dayGoes_71 ?_
  refine x_icmp_ge_t C.1 (tgt := 130) dX12_dayGoes_72 (by decide) (by decide) (by decide) (by decide) ?_
  refine x_aload_n C.1 dX12_dayGoes_130 1 rfl ?_
  refine x_getA C (N := 33) (i := 0) (by decide) rfl vc_X12 wx_X12 0 (by decide) wf_X12_7 (a := 1) rfl dX12_dayGoes_131 ?_
  refine x_bipush C.1 (n := 79) dX12_dayGoes_134 ?_
  refine x_aload_n C.1 dX12_dayGoes_136 1 rfl ?_
  refine x_getA C (N := 33) (i := 0) (by decide) rfl vc_X12 wx_X12 0 (by decide) wf_X12_7 (a := 1) rfl dX12_dayGoes_137 ?_
  refine x_bipush C.1 (n := 79) dX12_dayGoes_140 ?_
  refine x_iald C (N := 33) (i := 1) (q := 79) (by decide) rfl (by decide) (by decide) dX12_dayGoes_142 (a := V 1 79) rfl ?_
  refine x_iconst C.1 (n := 1) dX12_dayGoes_143 ?_
  refine x_iadd C.1 (v := (V 1 79) + 1) rfl dX12_dayGoes_144 ?_
  refine x_iast C (N := 33) (i := 1) (q := 79) (a := (V 1 79) + 1) (by decide) rfl (by decide) (by decide) dX12_dayGoes_145 ?_
  rw [show (79 : Int).toNat = 79 from rfl]
  exact x_vret (S := xS) (post := fun u => u = (up2 V 1 79 (V 1 79 + 1), J, Rr)) (w1 := fun u : xS => MW cy ad u.1 u.2.1 u.2.2) C hr rfl dX12_dayGoes_146 ((up2 V 1 79 ((V 1 79) + 1)), J, Rr) rfl rfl
theorem hd_yX12_dayGoes : yX12_dayGoes.cls ≠ "java/lang/invoke/MethodHandle" ∧ yX12_dayGoes.cls ≠ "java/lang/invoke/VarHandle" ∧ (parseMethodDescriptor yX12_dayGoes.desc).map (fun d => d.parameters.length) = some 0 := by decide +kernel
theorem dX12_daysGo_0 : decode cX12_daysGo 0 = .ok (.aload_n 0, 1) := by decide +kernel
theorem dX12_daysGo_1 : decode cX12_daysGo 1 = .ok (.iconst 0, 1) := by decide +kernel
theorem dX12_daysGo_2 : decode cX12_daysGo 2 = .ok (.putfield 266, 3) := by decide +kernel
theorem dX12_daysGo_5 : decode cX12_daysGo 5 = .ok (.aload_n 0, 1) := by decide +kernel
theorem dX12_daysGo_6 : decode cX12_daysGo 6 = .ok (.iconst 0, 1) := by decide +kernel
theorem dX12_daysGo_7 : decode cX12_daysGo 7 = .ok (.putfield 269, 3) := by decide +kernel
theorem dX12_daysGo_10 : decode cX12_daysGo 10 = .ok (.aload_n 0, 1) := by decide +kernel
theorem dX12_daysGo_11 : decode cX12_daysGo 11 = .ok (.iconst 0, 1) := by decide +kernel
theorem dX12_daysGo_12 : decode cX12_daysGo 12 = .ok (.putfield 281, 3) := by decide +kernel
theorem dX12_daysGo_15 : decode cX12_daysGo 15 = .ok (.iconst 0, 1) := by decide +kernel
theorem dX12_daysGo_16 : decode cX12_daysGo 16 = .ok (.istore_n 2, 1) := by decide +kernel
theorem dX12_daysGo_17 : decode cX12_daysGo 17 = .ok (.iload_n 2, 1) := by decide +kernel
theorem dX12_daysGo_18 : decode cX12_daysGo 18 = .ok (.bipush 8, 2) := by decide +kernel
theorem dX12_daysGo_20 : decode cX12_daysGo 20 = .ok (.if_icmp .ge 16, 3) := by decide +kernel
theorem dX12_daysGo_23 : decode cX12_daysGo 23 = .ok (.aload_n 0, 1) := by decide +kernel
theorem dX12_daysGo_24 : decode cX12_daysGo 24 = .ok (.getfield 65, 3) := by decide +kernel
theorem dX12_daysGo_27 : decode cX12_daysGo 27 = .ok (.iload_n 2, 1) := by decide +kernel
theorem dX12_daysGo_28 : decode cX12_daysGo 28 = .ok (.iconst 0, 1) := by decide +kernel
theorem dX12_daysGo_29 : decode cX12_daysGo 29 = .ok (.iastore, 1) := by decide +kernel
theorem dX12_daysGo_30 : decode cX12_daysGo 30 = .ok (.iinc 2 1, 3) := by decide +kernel
theorem dX12_daysGo_33 : decode cX12_daysGo 33 = .ok (.goto (-16), 3) := by decide +kernel
theorem dX12_daysGo_36 : decode cX12_daysGo 36 = .ok (.iconst 0, 1) := by decide +kernel
theorem dX12_daysGo_37 : decode cX12_daysGo 37 = .ok (.istore_n 2, 1) := by decide +kernel
theorem dX12_daysGo_38 : decode cX12_daysGo 38 = .ok (.iload_n 2, 1) := by decide +kernel
theorem dX12_daysGo_39 : decode cX12_daysGo 39 = .ok (.iload_n 1, 1) := by decide +kernel
theorem dX12_daysGo_40 : decode cX12_daysGo 40 = .ok (.if_icmp .ge 26, 3) := by decide +kernel
theorem dX12_daysGo_43 : decode cX12_daysGo 43 = .ok (.aload_n 0, 1) := by decide +kernel
theorem dX12_daysGo_44 : decode cX12_daysGo 44 = .ok (.getfield 7, 3) := by decide +kernel
theorem dX12_daysGo_47 : decode cX12_daysGo 47 = .ok (.bipush 79, 2) := by decide +kernel
theorem dX12_daysGo_49 : decode cX12_daysGo 49 = .ok (.iaload, 1) := by decide +kernel
theorem dX12_daysGo_50 : decode cX12_daysGo 50 = .ok (.sipush 9999, 3) := by decide +kernel
theorem dX12_daysGo_53 : decode cX12_daysGo 53 = .ok (.if_icmp .ge 13, 3) := by decide +kernel
theorem dX12_daysGo_56 : decode cX12_daysGo 56 = .ok (.aload_n 0, 1) := by decide +kernel
theorem dX12_daysGo_57 : decode cX12_daysGo 57 = .ok (.invokevirtual 288, 3) := by decide +kernel
theorem dX12_daysGo_60 : decode cX12_daysGo 60 = .ok (.iinc 2 1, 3) := by decide +kernel
theorem dX12_daysGo_63 : decode cX12_daysGo 63 = .ok (.goto (-25), 3) := by decide +kernel
theorem dX12_daysGo_66 : decode cX12_daysGo 66 = .ok (.return_, 1) := by decide +kernel
set_option maxHeartbeats 4000000 in
set_option maxRecDepth 100000 in
theorem g_daysGo (l : Launch) (D : va_G) (cy : Nat → ClassId) (ad : Nat → Nat) (V J : Nat → Nat → Int) (Rr : Nat → Nat → Nat) (hV : VR V) (hJ : VJ J) (x1 : Int) (hx1 : R32 x1) (h76 : V 1 76 = 0) (h78 : V 1 78 = 0) (htp : V 0 4 = 0) (hdy : 0 ≤ V 1 79 ∧ V 1 79 ≤ 9999) : xMv l D (xTY cy) yX12_daysGo cX12_daysGo 3 none 4 85 0 0 [.ref (ad 0), vI x1] (MW cy ad V J Rr) (fun u : xS => MW cy ad u.1 u.2.1 u.2.2) (fun u => VR u.1 ∧ u.1 0 27 = 0 ∧ u.1 0 28 = 0 ∧ u.1 0 29 = 0 ∧ u.1 1 77 = V 1 77 ∧ (J, Rr) = u.2) := by
  refine xMv.mk (lv0 := [(0, .ref (ad 0)), (1, vI x1)]) (by decide) rfl (Nat.le_of_ble_eq_true rfl) (fun p e s m below meth c A C hr hnm hAe => ?_)
  have C : xC2 p s m _ meth c D A s.heap 3 cX12_daysGo RX12 (xTY cy) := C
  refine x_aload_n C.1 dX12_daysGo_0 0 rfl ?_
  refine x_iconst C.1 (n := 0) dX12_daysGo_1 ?_
  refine x_putI C (N := 33) (i := 0) (by decide) rfl vc_X12 wx_X12 27 (by decide) wf_X12_266 tyX12 tyX12_ok nmX12 rfl (tyX12_ok 27 (by decide)) rfl dX12_daysGo_2 rfl rfl ?_
  refine x_aload_n C.1 dX12_daysGo_5 0 rfl ?_
  refine x_iconst C.1 (n := 0) dX12_daysGo_6 ?_
  refine x_putI C (N := 33) (i := 0) (by decide) rfl vc_X12 wx_X12 28 (by decide) wf_X12_269 tyX12 tyX12_ok nmX12 rfl (tyX12_ok 28 (by decide)) rfl dX12_daysGo_7 rfl rfl ?_
  refine x_aload_n C.1 dX12_daysGo_10 0 rfl ?_
  refine x_iconst C.1 (n := 0) dX12_daysGo_11 ?_
  refine x_putI C (N := 33) (i := 0) (by decide) rfl vc_X12 wx_X12 29 (by decide) wf_X12_281 tyX12 tyX12_ok nmX12 rfl (tyX12_ok 29 (by decide)) rfl dX12_daysGo_12 rfl rfl ?_
  refine x_iconst C.1 (n := 0) dX12_daysGo_15 ?_
  refine x_istore_n C.1 (lv' := [(2, vI 0), (0, .ref (ad 0)), (1, vI x1)]) dX12_daysGo_16 (by decide) rfl ?_
  refine x_iload_n C.1 dX12_daysGo_17 0 rfl ?_
  refine x_bipush C.1 (n := 8) dX12_daysGo_18 ?_
  refine x_icmp_ge_f C.1 (tgt := 36) dX12_daysGo_20 (by decide) (by decide) (by decide) (by decide) ?_
  refine x_aload_n C.1 dX12_daysGo_23 1 rfl ?_
  refine x_getA C (N := 33) (i := 0) (by decide) rfl vc_X12 wx_X12 30 (by decide) wf_X12_65 (a := 19) rfl dX12_daysGo_24 ?_
  refine x_iload_n C.1 dX12_daysGo_27 0 rfl ?_
  refine x_iconst C.1 (n := 0) dX12_daysGo_28 ?_
  refine x_iast C (N := 33) (i := 19) (q := 0) (a := 0) (by decide) rfl (by decide) (by decide) dX12_daysGo_29 ?_
  rw [show (0 : Int).toNat = 0 from rfl]
  refine x_iinc C.1 (v := 1) (lv' := [(2, vI 1), (0, .ref (ad 0)), (1, vI x1)]) (by decide) dX12_daysGo_30 0 rfl (by decide) rfl ?_
  refine x_goto C.1 (tgt := 17) dX12_daysGo_33 (by decide) ?_
  refine x_iload_n C.1 dX12_daysGo_17 0 rfl ?_
  refine x_bipush C.1 (n := 8) dX12_daysGo_18 ?_
  refine x_icmp_ge_f C.1 (tgt := 36) dX12_daysGo_20 (by decide) (by decide) (by decide) (by decide) ?_
  refine x_aload_n C.1 dX12_daysGo_23 1 rfl ?_
  refine x_getA C (N := 33) (i := 0) (by decide) rfl vc_X12 wx_X12 30 (by decide) wf_X12_65 (a := 19) rfl dX12_daysGo_24 ?_
  refine x_iload_n C.1 dX12_daysGo_27 0 rfl ?_
  refine x_iconst C.1 (n := 0) dX12_daysGo_28 ?_
  refine x_iast C (N := 33) (i := 19) (q := 1) (a := 0) (by decide) rfl (by decide) (by decide) dX12_daysGo_29 ?_
  rw [show (1 : Int).toNat = 1 from rfl]
  refine x_iinc C.1 (v := 2) (lv' := [(2, vI 2), (0, .ref (ad 0)), (1, vI x1)]) (by decide) dX12_daysGo_30 0 rfl (by decide) rfl ?_
  refine x_goto C.1 (tgt := 17) dX12_daysGo_33 (by decide) ?_
  refine x_iload_n C.1 dX12_daysGo_17 0 rfl ?_
  refine x_bipush C.1 (n := 8) dX12_daysGo_18 ?_
  refine x_icmp_ge_f C.1 (tgt := 36) dX12_daysGo_20 (by decide) (by decide) (by decide) (by decide) ?_
  refine x_aload_n C.1 dX12_daysGo_23 1 rfl ?_
  refine x_getA C (N := 33) (i := 0) (by decide) rfl vc_X12 wx_X12 30 (by decide) wf_X12_65 (a := 19) rfl dX12_daysGo_24 ?_
  refine x_iload_n C.1 dX12_daysGo_27 0 rfl ?_
  refine x_iconst C.1 (n := 0) dX12_daysGo_28 ?_
  refine x_iast C (N := 33) (i := 19) (q := 2) (a := 0) (by decide) rfl (by decide) (by decide) dX12_daysGo_29 ?_
  rw [show (2 : Int).toNat = 2 from rfl]
  refine x_iinc C.1 (v := 3) (lv' := [(2, vI 3), (0, .ref (ad 0)), (1, vI x1)]) (by decide) dX12_daysGo_30 0 rfl (by decide) rfl ?_
  refine x_goto C.1 (tgt := 17) dX12_daysGo_33 (by decide) ?_
  refine x_iload_n C.1 dX12_daysGo_17 0 rfl ?_
  refine x_bipush C.1 (n := 8) dX12_daysGo_18 ?_
  refine x_icmp_ge_f C.1 (tgt := 36) dX12_daysGo_20 (by decide) (by decide) (by decide) (by decide) ?_
  refine x_aload_n C.1 dX12_daysGo_23 1 rfl ?_
  refine x_getA C (N := 33) (i := 0) (by decide) rfl vc_X12 wx_X12 30 (by decide) wf_X12_65 (a := 19) rfl dX12_daysGo_24 ?_
  refine x_iload_n C.1 dX12_daysGo_27 0 rfl ?_
  refine x_iconst C.1 (n := 0) dX12_daysGo_28 ?_
  refine x_iast C (N := 33) (i := 19) (q := 3) (a := 0) (by decide) rfl (by decide) (by decide) dX12_daysGo_29 ?_
  rw [show (3 : Int).toNat = 3 from rfl]
  refine x_iinc C.1 (v := 4) (lv' := [(2, vI 4), (0, .ref (ad 0)), (1, vI x1)]) (by decide) dX12_daysGo_30 0 rfl (by decide) rfl ?_
  refine x_goto C.1 (tgt := 17) dX12_daysGo_33 (by decide) ?_
  refine x_iload_n C.1 dX12_daysGo_17 0 rfl ?_
  refine x_bipush C.1 (n := 8) dX12_daysGo_18 ?_
  refine x_icmp_ge_f C.1 (tgt := 36) dX12_daysGo_20 (by decide) (by decide) (by decide) (by decide) ?_
  refine x_aload_n C.1 dX12_daysGo_23 1 rfl ?_
  refine x_getA C (N := 33) (i := 0) (by decide) rfl vc_X12 wx_X12 30 (by decide) wf_X12_65 (a := 19) rfl dX12_daysGo_24 ?_
  refine x_iload_n C.1 dX12_daysGo_27 0 rfl ?_
  refine x_iconst C.1 (n := 0) dX12_daysGo_28 ?_
  refine x_iast C (N := 33) (i := 19) (q := 4) (a := 0) (by decide) rfl (by decide) (by decide) dX12_daysGo_29 ?_
  rw [show (4 : Int).toNat = 4 from rfl]
  refine x_iinc C.1 (v := 5) (lv' := [(2, vI 5), (0, .ref (ad 0)), (1, vI x1)]) (by decide) dX12_daysGo_30 0 rfl (by decide) rfl ?_
  refine x_goto C.1 (tgt := 17) dX12_daysGo_33 (by decide) ?_
  refine x_iload_n C.1 dX12_daysGo_17 0 rfl ?_
  refine x_bipush C.1 (n := 8) dX12_daysGo_18 ?_
  refine x_icmp_ge_f C.1 (tgt := 36) dX12_daysGo_20 (by decide) (by decide) (by decide) (by decide) ?_
  refine x_aload_n C.1 dX12_daysGo_23 1 rfl ?_
  refine x_getA C (N := 33) (i := 0) (by decide) rfl vc_X12 wx_X12 30 (by decide) wf_X12_65 (a := 19) rfl dX12_daysGo_24 ?_
  refine x_iload_n C.1 dX12_daysGo_27 0 rfl ?_
  refine x_iconst C.1 (n := 0) dX12_daysGo_28 ?_
  refine x_iast C (N := 33) (i := 19) (q := 5) (a := 0) (by decide) rfl (by decide) (by decide) dX12_daysGo_29 ?_
  rw [show (5 : Int).toNat = 5 from rfl]
  refine x_iinc C.1 (v := 6) (lv' := [(2, vI 6), (0, .ref (ad 0)), (1, vI x1)]) (by decide) dX12_daysGo_30 0 rfl (by decide) rfl ?_
  refine x_goto C.1 (tgt := 17) dX12_daysGo_33 (by decide) ?_
  refine x_iload_n C.1 dX12_daysGo_17 0 rfl ?_
  refine x_bipush C.1 (n := 8) dX12_daysGo_18 ?_
  refine x_icmp_ge_f C.1 (tgt := 36) dX12_daysGo_20 (by decide) (by decide) (by decide) (by decide) ?_
  refine x_aload_n C.1 dX12_daysGo_23 1 rfl ?_
  refine x_getA C (N := 33) (i := 0) (by decide) rfl vc_X12 wx_X12 30 (by decide) wf_X12_65 (a := 19) rfl dX12_daysGo_24 ?_
  refine x_iload_n C.1 dX12_daysGo_27 0 rfl ?_
  refine x_iconst C.1 (n := 0) dX12_daysGo_28 ?_
  refine x_iast C (N := 33) (i := 19) (q := 6) (a := 0) (by decide) rfl (by decide) (by decide) dX12_daysGo_29 ?_
  rw [show (6 : Int).toNat = 6 from rfl]
  refine x_iinc C.1 (v := 7) (lv' := [(2, vI 7), (0, .ref (ad 0)), (1, vI x1)]) (by decide) dX12_daysGo_30 0 rfl (by decide) rfl ?_
  refine x_goto C.1 (tgt := 17) dX12_daysGo_33 (by decide) ?_
  refine x_iload_n C.1 dX12_daysGo_17 0 rfl ?_
  refine x_bipush C.1 (n := 8) dX12_daysGo_18 ?_
  refine x_icmp_ge_f C.1 (tgt := 36) dX12_daysGo_20 (by decide) (by decide) (by decide) (by decide) ?_
  refine x_aload_n C.1 dX12_daysGo_23 1 rfl ?_
  refine x_getA C (N := 33) (i := 0) (by decide) rfl vc_X12 wx_X12 30 (by decide) wf_X12_65 (a := 19) rfl dX12_daysGo_24 ?_
  refine x_iload_n C.1 dX12_daysGo_27 0 rfl ?_
  refine x_iconst C.1 (n := 0) dX12_daysGo_28 ?_
  refine x_iast C (N := 33) (i := 19) (q := 7) (a := 0) (by decide) rfl (by decide) (by decide) dX12_daysGo_29 ?_
  rw [show (7 : Int).toNat = 7 from rfl]
  refine x_iinc C.1 (v := 8) (lv' := [(2, vI 8), (0, .ref (ad 0)), (1, vI x1)]) (by decide) dX12_daysGo_30 0 rfl (by decide) rfl ?_
  refine x_goto C.1 (tgt := 17) dX12_daysGo_33 (by decide) ?_
  refine x_iload_n C.1 dX12_daysGo_17 0 rfl ?_
  refine x_bipush C.1 (n := 8) dX12_daysGo_18 ?_
  refine x_icmp_ge_t C.1 (tgt := 36) dX12_daysGo_20 (by decide) (by decide) (by decide) (by decide) ?_
  refine x_iconst C.1 (n := 0) dX12_daysGo_36 ?_
  refine x_istore_n C.1 (lv' := [(2, vI 0), (0, .ref (ad 0)), (1, vI x1)]) dX12_daysGo_37 (by decide) rfl ?_
  refine x_loop (I := fun x : Nat × (Nat → Nat → Int) => match x with | (zi, zV) => zi ≤ 2147483647 ∧ VR zV ∧ zV 0 27 = 0 ∧ zV 0 28 = 0 ∧ zV 0 29 = 0 ∧ zV 1 76 = 0 ∧ zV 1 78 = 0 ∧ zV 0 4 = 0 ∧ zV 1 77 = V 1 77 ∧ 0 ≤ zV 1 79 ∧ zV 1 79 ≤ 9999 ∧ zV 2 = V 2) (μ := fun x : Nat × (Nat → Nat → Int) => match x with | (zi, zV) => (x1 - zi).toNat) (wsf := fun x : Nat × (Nat → Nat → Int) => match x with | (zi, zV) => MW cy ad zV J Rr) (lvf := fun x : Nat × (Nat → Nat → Int) => match x with | (zi, zV) => [(2, vI (zi : Int)), (0, .ref (ad 0)), (1, vI x1)]) (fun x hI ih1 => ?_) (0, (up2 (up2 (up2 (up2 (up2 (up2 (up2 (up2 (up2 (up2 (up2 V 0 27 0) 0 28 0) 0 29 0) 19 0 0) 19 1 0) 19 2 0) 19 3 0) 19 4 0) 19 5 0) 19 6 0) 19 7 0)) ⟨by decide, (VR_up (VR_up (VR_up (VR_up (VR_up (VR_up (VR_up (VR_up (VR_up (VR_up (VR_up hV (by decide)) (by decide)) (by decide)) (by decide)) (by decide)) (by decide)) (by decide)) (by decide)) (by decide)) (by decide)) (by decide)), by simp [up2, up1], by simp [up2, up1], by simp [up2, up1], by simp [up2, up1, h76], by simp [up2, up1, h78], by simp [up2, up1, htp], by simp [up2, up1], by simp [up2, up1, hdy], by simp [up2, up1, hdy], by simp [up2, up1]⟩ rfl rfl
  obtain ⟨zi, zV⟩ := x
  obtain ⟨hz0, hz1, hz2, hz3, hz4, hz5, hz6, hz7, hz8, hz9, hz10, hz11⟩ := hI
  try dsimp only
  refine x_iload_n C.1 dX12_daysGo_38 0 rfl ?_
  refine x_iload_n C.1 dX12_daysGo_39 2 rfl ?_
  refine x_icmp_ge C.1 (tgt := 66) dX12_daysGo_40 (by decide) (by omega) hx1 (fun c40_2 => ?_) (fun c40_2 => ?_)
  · exact x_vret (S := xS) (post := fun u => VR u.1 ∧ u.1 0 27 = 0 ∧ u.1 0 28 = 0 ∧ u.1 0 29 = 0 ∧ u.1 1 77 = V 1 77 ∧ (J, Rr) = u.2) (w1 := fun u : xS => MW cy ad u.1 u.2.1 u.2.2) C hr rfl dX12_daysGo_66 (zV, J, Rr) rfl ⟨hz1, hz2, hz3, hz4, hz8, rfl⟩
  · refine x_aload_n C.1 dX12_daysGo_43 1 rfl ?_
    refine x_getA C (N := 33) (i := 0) (by decide) rfl vc_X12 wx_X12 0 (by decide) wf_X12_7 (a := 1) rfl dX12_daysGo_44 ?_
    refine x_bipush C.1 (n := 79) dX12_daysGo_47 ?_
    refine x_iald C (N := 33) (i := 1) (q := 79) (by decide) rfl (by decide) (by decide) dX12_daysGo_49 (a := zV 1 79) rfl ?_
    refine x_sipush C.1 (n := 9999) dX12_daysGo_50 ?_
    refine x_icmp_ge C.1 (tgt := 66) dX12_daysGo_53 (by decide) (hz1 _ _) (by decide) (fun c53_3 => ?_) (fun c53_3 => ?_)
    · exact x_vret (S := xS) (post := fun u => VR u.1 ∧ u.1 0 27 = 0 ∧ u.1 0 28 = 0 ∧ u.1 0 29 = 0 ∧ u.1 1 77 = V 1 77 ∧ (J, Rr) = u.2) (w1 := fun u : xS => MW cy ad u.1 u.2.1 u.2.2) C hr rfl dX12_daysGo_66 (zV, J, Rr) rfl ⟨hz1, hz2, hz3, hz4, hz8, rfl⟩
    · refine x_aload_n C.1 dX12_daysGo_56 1 rfl ?_
      refine x_callVv C (As := []) (rest := []) 0 (xw_at (N := 33) (i := 0) (by decide) rfl) vc_X12 (g_dayGoes l D cy ad zV J Rr hz1 hJ hz5 hz6 hz7 (by omega)) (l1 := []) (l2 := []) (List.append_nil _).symm (w2 := fun u : xS => MW cy ad u.1 u.2.1 u.2.2) (fun _ => List.append_nil _) rfl wm_yX12_dayGoes wn_X12 wl_X12_288 wi_yX12_dayGoes we_yX12_dayGoes hd_yX12_dayGoes rfl ⟨Nat.le_of_ble_eq_true rfl, Nat.le_of_ble_eq_true rfl⟩ (Nat.le_of_ble_eq_true rfl) ⟨Nat.le_of_ble_eq_true rfl, Nat.le_of_ble_eq_true rfl⟩ dX12_daysGo_57 (fun u4 h4 => ?_)
      obtain rfl := h4
      try dsimp only
      refine x_iinc C.1 (v := (zi : Int) + 1) (lv' := [(2, vI ((zi : Int) + 1)), (0, .ref (ad 0)), (1, vI x1)]) rfl dX12_daysGo_60 0 rfl (by decide) rfl ?_
      refine x_goto C.1 (tgt := 38) dX12_daysGo_63 (by decide) ?_
      rw [← Int.natCast_add_one]
      exact ih1 (zi + 1, _) ⟨by (try dsimp only); omega, (VR_up hz1 (by omega)), by simp [up2, up1, hz2], by simp [up2, up1, hz3], by simp [up2, up1, hz4], by simp [up2, up1, hz5], by simp [up2, up1, hz6], by simp [up2, up1, hz7], by simp [up2, up1, hz8], by simp [up2, up1] <;> omega, by simp [up2, up1] <;> omega, by simp [up2, up1, hz11]⟩ (by (try dsimp only); omega)
theorem hd_yX12_daysGo : yX12_daysGo.cls ≠ "java/lang/invoke/MethodHandle" ∧ yX12_daysGo.cls ≠ "java/lang/invoke/VarHandle" ∧ (parseMethodDescriptor yX12_daysGo.desc).map (fun d => d.parameters.length) = some 1 := by decide +kernel
theorem dX12_days_0 : decode cX12_days 0 = .ok (.iload_n 1, 1) := by decide +kernel
theorem dX12_days_1 : decode cX12_days 1 = .ok (.iconst 1, 1) := by decide +kernel
theorem dX12_days_2 : decode cX12_days 2 = .ok (.bipush 60, 2) := by decide +kernel
theorem dX12_days_4 : decode cX12_days 4 = .ok (.invokestatic 126, 3) := by decide +kernel
theorem dX12_days_7 : decode cX12_days 7 = .ok (.ifCond .ne 5, 3) := by decide +kernel
theorem dX12_days_10 : decode cX12_days 10 = .ok (.iconst (-1), 1) := by decide +kernel
theorem dX12_days_11 : decode cX12_days 11 = .ok (.ireturn, 1) := by decide +kernel
theorem dX12_days_12 : decode cX12_days 12 = .ok (.aload_n 0, 1) := by decide +kernel
theorem dX12_days_13 : decode cX12_days 13 = .ok (.iload_n 1, 1) := by decide +kernel
theorem dX12_days_14 : decode cX12_days 14 = .ok (.invokevirtual 291, 3) := by decide +kernel
theorem dX12_days_17 : decode cX12_days 17 = .ok (.aload_n 0, 1) := by decide +kernel
theorem dX12_days_18 : decode cX12_days 18 = .ok (.getfield 266, 3) := by decide +kernel
theorem dX12_days_21 : decode cX12_days 21 = .ok (.ireturn, 1) := by decide +kernel
set_option maxHeartbeats 4000000 in
set_option maxRecDepth 100000 in
theorem g_days (l : Launch) (D : va_G) (cy : Nat → ClassId) (ad : Nat → Nat) (V J : Nat → Nat → Int) (Rr : Nat → Nat → Nat) (hV : VR V) (hJ : VJ J) (x1 : Int) (hx1 : R32 x1) (h76 : V 1 76 = 0) (h78 : V 1 78 = 0) (htp : V 0 4 = 0) (h79 : V 1 79 = 0) : xMi l D (xTY cy) yX12_days cX12_days 2 (some .int) 5 107 0 0 [.ref (ad 0), vI x1] (MW cy ad V J Rr) (fun u : xS => MW cy ad u.1 u.2.1 u.2.2) (fun r _ => (1 ≤ x1 ∧ x1 ≤ 60 ∧ r = 0) ∨ (¬ (1 ≤ x1 ∧ x1 ≤ 60) ∧ r = -1)) := by
  refine xMi.mk (lv0 := [(0, .ref (ad 0)), (1, vI x1)]) (by decide) rfl (Nat.le_of_ble_eq_true rfl) (fun p e s m below meth c A C hr hnm hAe => ?_)
  have C : xC2 p s m _ meth c D A s.heap 2 cX12_days RX12 (xTY cy) := C
  refine x_iload_n C.1 dX12_days_0 1 rfl ?_
  refine x_iconst C.1 (n := 1) dX12_days_1 ?_
  refine x_bipush C.1 (n := 60) dX12_days_2 ?_
  refine x_callSi C (As := [vI x1, vI 1, vI 60]) (rest := []) (c_in l D cy x1 1 60 hx1 (by decide) (by decide)) (l1 := []) (l2 := _) rfl (w2 := fun _ => _) (fun _ => rfl) rfl wm_yX12_in wn_X12 wl_X12_126 wi_yX12_in hd_yX12_in rfl ⟨Nat.le_of_ble_eq_true rfl, Nat.le_of_ble_eq_true rfl⟩ (Nat.le_of_ble_eq_true rfl) ⟨Nat.le_of_ble_eq_true rfl, Nat.le_of_ble_eq_true rfl⟩ dX12_days_4 (fun r1 u1 hr1 h1 => ?_)
  rcases h1 with ⟨rfl, t1, t1b⟩ | ⟨rfl, t1⟩
  · refine x_if_ne_t C.1 (tgt := 12) dX12_days_7 (by decide) (by decide) (by decide) ?_
    refine x_aload_n C.1 dX12_days_12 0 rfl ?_
    refine x_iload_n C.1 dX12_days_13 1 rfl ?_
    refine x_callVv C (As := [vI x1]) (rest := []) 0 (xw_at (N := 33) (i := 0) (by decide) rfl) vc_X12 (g_daysGo l D cy ad V J Rr hV hJ x1 hx1 h76 h78 htp (by omega)) (l1 := []) (l2 := []) (List.append_nil _).symm (w2 := fun u : xS => MW cy ad u.1 u.2.1 u.2.2) (fun _ => List.append_nil _) rfl wm_yX12_daysGo wn_X12 wl_X12_291 wi_yX12_daysGo we_yX12_daysGo hd_yX12_daysGo rfl ⟨Nat.le_of_ble_eq_true rfl, Nat.le_of_ble_eq_true rfl⟩ (Nat.le_of_ble_eq_true rfl) ⟨Nat.le_of_ble_eq_true rfl, Nat.le_of_ble_eq_true rfl⟩ dX12_days_14 (fun u2 h2 => ?_)
    obtain ⟨zV2, zJ2, zR2⟩ := u2
    obtain ⟨hzb2, hc27, hc28, hc29, hc77, hzd2⟩ := h2
    obtain ⟨rfl, rfl⟩ := Prod.mk.inj hzd2
    try dsimp only at hzb2 hc27 hc28 hc29 hc77 ⊢
    refine x_aload_n C.1 dX12_days_17 0 rfl ?_
    refine x_getI C (N := 33) (i := 0) (by decide) rfl vc_X12 wx_X12 27 (by decide) wf_X12_266 rfl dX12_days_18 (a := 0) hc27 ?_
    exact x_iret (S := xS) (post := fun r _ => (1 ≤ x1 ∧ x1 ≤ 60 ∧ r = 0) ∨ (¬ (1 ≤ x1 ∧ x1 ≤ 60) ∧ r = -1)) (w1 := fun u : xS => MW cy ad u.1 u.2.1 u.2.2) (a := 0) C hr rfl dX12_days_21 (by decide) (zV2, J, Rr) rfl (by omega)
  · refine x_if_ne_f C.1 (tgt := 12) dX12_days_7 (by decide) (by decide) (by decide) ?_
    refine x_iconst C.1 (n := -1) dX12_days_10 ?_
    exact x_iret (S := xS) (post := fun r _ => (1 ≤ x1 ∧ x1 ≤ 60 ∧ r = 0) ∨ (¬ (1 ≤ x1 ∧ x1 ≤ 60) ∧ r = -1)) (w1 := fun u : xS => MW cy ad u.1 u.2.1 u.2.2) (a := (-1)) C hr rfl dX12_days_11 (by decide) (V, J, Rr) rfl (by omega)
theorem dX12_copies_0 : decode cX12_copies 0 = .ok (.iconst 0, 1) := by decide +kernel
theorem dX12_copies_1 : decode cX12_copies 1 = .ok (.istore_n 2, 1) := by decide +kernel
theorem dX12_copies_2 : decode cX12_copies 2 = .ok (.iload_n 2, 1) := by decide +kernel
theorem dX12_copies_3 : decode cX12_copies 3 = .ok (.bipush 81, 2) := by decide +kernel
theorem dX12_copies_5 : decode cX12_copies 5 = .ok (.if_icmp .ge 15, 3) := by decide +kernel
theorem dX12_copies_8 : decode cX12_copies 8 = .ok (.aload_n 1, 1) := by decide +kernel
theorem dX12_copies_9 : decode cX12_copies 9 = .ok (.iload_n 2, 1) := by decide +kernel
theorem dX12_copies_10 : decode cX12_copies 10 = .ok (.aload_n 0, 1) := by decide +kernel
theorem dX12_copies_11 : decode cX12_copies 11 = .ok (.iload_n 2, 1) := by decide +kernel
theorem dX12_copies_12 : decode cX12_copies 12 = .ok (.iaload, 1) := by decide +kernel
theorem dX12_copies_13 : decode cX12_copies 13 = .ok (.iastore, 1) := by decide +kernel
theorem dX12_copies_14 : decode cX12_copies 14 = .ok (.iinc 2 1, 3) := by decide +kernel
theorem dX12_copies_17 : decode cX12_copies 17 = .ok (.goto (-15), 3) := by decide +kernel
theorem dX12_copies_20 : decode cX12_copies 20 = .ok (.return_, 1) := by decide +kernel
set_option maxHeartbeats 4000000 in
set_option maxRecDepth 100000 in
theorem c_copies (l : Launch) (D : va_G) (cy : Nat → ClassId) (ad : Nat → Nat) (V J : Nat → Nat → Int) (Rr : Nat → Nat → Nat) (hV : VR V) (hJ : VJ J) (ca cb : Nat) (hca : ca < 33) (hcb : cb < 33) (hda : mdsc ca = .inr (0, 81, 0, 0, 0)) (hdb : mdsc cb = .inr (0, 81, 0, 0, 0)) (hne : ca ≠ cb) : xMv l D (xTY cy) yX12_copies cX12_copies 3 none 0 0 0 0 [.ref (ad ca), .ref (ad cb)] (MW cy ad V J Rr) (fun u : xS => MW cy ad u.1 u.2.1 u.2.2) (fun u => u = (cpN V ca cb 81, J, Rr)) := by
  refine xMv.mk (lv0 := [(0, .ref (ad ca)), (1, .ref (ad cb))]) (by decide) rfl (Nat.le_of_ble_eq_true rfl) (fun p e s m below meth c A C hr hnm hAe => ?_)
  have C : xC2 p s m _ meth c D A s.heap 3 cX12_copies RX12 (xTY cy) := C
  refine x_iconst C.1 (n := 0) dX12_copies_0 ?_
  refine x_istore_n C.1 (lv' := [(2, vI 0), (0, .ref (ad ca)), (1, .ref (ad cb))]) dX12_copies_1 (by decide) rfl ?_
  refine x_loop (I := fun zi : Nat => zi ≤ 81) (μ := fun zi : Nat => 81 - zi) (wsf := fun zi : Nat => MW cy ad (cpN V ca cb zi) J Rr) (lvf := fun zi : Nat => [(2, vI (zi : Int)), (0, .ref (ad ca)), (1, .ref (ad cb))]) (fun zi hI ih1 => ?_) (0) (Nat.zero_le _) (by (try dsimp only); rw [cpN_0]) rfl
  obtain hI := hI
  try dsimp only
  refine x_iload_n C.1 dX12_copies_2 0 rfl ?_
  refine x_bipush C.1 (n := 81) dX12_copies_3 ?_
  refine x_icmp_ge C.1 (tgt := 20) dX12_copies_5 (by decide) (by omega) (by decide) (fun c5_2 => ?_) (fun c5_2 => ?_)
  · exact x_vret (S := xS) (post := fun u => u = (cpN V ca cb 81, J, Rr)) (w1 := fun u : xS => MW cy ad u.1 u.2.1 u.2.2) C hr rfl dX12_copies_20 ((cpN V ca cb zi), J, Rr) rfl (by rw [show zi = 81 by omega])
  · refine x_aload_n C.1 dX12_copies_8 2 rfl ?_
    refine x_iload_n C.1 dX12_copies_9 0 rfl ?_
    refine x_aload_n C.1 dX12_copies_10 1 rfl ?_
    refine x_iload_n C.1 dX12_copies_11 0 rfl ?_
    refine x_iald C (N := 33) (i := ca) (q := (zi : Int)) hca hda (by omega) (by decide) dX12_copies_12 (a := (cpN V ca cb zi) ca ((zi : Int).toNat)) rfl ?_
    refine x_iast C (N := 33) (i := cb) (q := (zi : Int)) (a := (cpN V ca cb zi) ca ((zi : Int).toNat)) hcb hdb (by omega) (by decide) dX12_copies_13 ?_
    refine x_iinc C.1 (v := (zi : Int) + 1) (lv' := [(2, vI ((zi : Int) + 1)), (0, .ref (ad ca)), (1, .ref (ad cb))]) rfl dX12_copies_14 0 rfl (by decide) rfl ?_
    refine x_goto C.1 (tgt := 2) dX12_copies_17 (by decide) ?_
    rw [Int.toNat_natCast, cpN_s hne, ← Int.natCast_add_one]
    exact ih1 (zi + 1) (by omega) (by omega)
theorem hd_yX12_copies : yX12_copies.cls ≠ "java/lang/invoke/MethodHandle" ∧ yX12_copies.cls ≠ "java/lang/invoke/VarHandle" ∧ (parseMethodDescriptor yX12_copies.desc).map (fun d => d.parameters.length) = some 2 := by decide +kernel
theorem dX12_tried_0 : decode cX12_tried 0 = .ok (.iload_n 2, 1) := by decide +kernel
theorem dX12_tried_1 : decode cX12_tried 1 = .ok (.iconst 0, 1) := by decide +kernel
theorem dX12_tried_2 : decode cX12_tried 2 = .ok (.iconst 3, 1) := by decide +kernel
theorem dX12_tried_3 : decode cX12_tried 3 = .ok (.invokestatic 126, 3) := by decide +kernel
theorem dX12_tried_6 : decode cX12_tried 6 = .ok (.ifCond .ne 47, 3) := by decide +kernel
theorem dX12_tried_9 : decode cX12_tried 9 = .ok (.iload_n 2, 1) := by decide +kernel
theorem dX12_tried_10 : decode cX12_tried 10 = .ok (.bipush 10, 2) := by decide +kernel
theorem dX12_tried_12 : decode cX12_tried 12 = .ok (.bipush 13, 2) := by decide +kernel
theorem dX12_tried_14 : decode cX12_tried 14 = .ok (.invokestatic 126, 3) := by decide +kernel
theorem dX12_tried_17 : decode cX12_tried 17 = .ok (.ifCond .eq 14, 3) := by decide +kernel
theorem dX12_tried_20 : decode cX12_tried 20 = .ok (.aload_n 0, 1) := by decide +kernel
theorem dX12_tried_21 : decode cX12_tried 21 = .ok (.iload_n 2, 1) := by decide +kernel
theorem dX12_tried_22 : decode cX12_tried 22 = .ok (.bipush 10, 2) := by decide +kernel
theorem dX12_tried_24 : decode cX12_tried 24 = .ok (.isub, 1) := by decide +kernel
theorem dX12_tried_25 : decode cX12_tried 25 = .ok (.invokevirtual 122, 3) := by decide +kernel
theorem dX12_tried_28 : decode cX12_tried 28 = .ok (.ifCond .ne 25, 3) := by decide +kernel
theorem dX12_tried_31 : decode cX12_tried 31 = .ok (.iload_n 2, 1) := by decide +kernel
theorem dX12_tried_32 : decode cX12_tried 32 = .ok (.bipush 20, 2) := by decide +kernel
theorem dX12_tried_34 : decode cX12_tried 34 = .ok (.bipush 27, 2) := by decide +kernel
theorem dX12_tried_36 : decode cX12_tried 36 = .ok (.invokestatic 126, 3) := by decide +kernel
theorem dX12_tried_39 : decode cX12_tried 39 = .ok (.ifCond .eq 18, 3) := by decide +kernel
theorem dX12_tried_42 : decode cX12_tried 42 = .ok (.aload_n 0, 1) := by decide +kernel
theorem dX12_tried_43 : decode cX12_tried 43 = .ok (.iload_n 2, 1) := by decide +kernel
theorem dX12_tried_44 : decode cX12_tried 44 = .ok (.bipush 20, 2) := by decide +kernel
theorem dX12_tried_46 : decode cX12_tried 46 = .ok (.isub, 1) := by decide +kernel
theorem dX12_tried_47 : decode cX12_tried 47 = .ok (.invokevirtual 259, 3) := by decide +kernel
theorem dX12_tried_50 : decode cX12_tried 50 = .ok (.ifCond .eq 7, 3) := by decide +kernel
theorem dX12_tried_53 : decode cX12_tried 53 = .ok (.iconst 1, 1) := by decide +kernel
theorem dX12_tried_54 : decode cX12_tried 54 = .ok (.goto 4, 3) := by decide +kernel
theorem dX12_tried_57 : decode cX12_tried 57 = .ok (.iconst 0, 1) := by decide +kernel
theorem dX12_tried_58 : decode cX12_tried 58 = .ok (.istore_n 3, 1) := by decide +kernel
theorem dX12_tried_59 : decode cX12_tried 59 = .ok (.iload_n 1, 1) := by decide +kernel
theorem dX12_tried_60 : decode cX12_tried 60 = .ok (.iconst 1, 1) := by decide +kernel
theorem dX12_tried_61 : decode cX12_tried 61 = .ok (.bipush 60, 2) := by decide +kernel
theorem dX12_tried_63 : decode cX12_tried 63 = .ok (.invokestatic 126, 3) := by decide +kernel
theorem dX12_tried_66 : decode cX12_tried 66 = .ok (.ifCond .eq 7, 3) := by decide +kernel
theorem dX12_tried_69 : decode cX12_tried 69 = .ok (.iload_n 3, 1) := by decide +kernel
theorem dX12_tried_70 : decode cX12_tried 70 = .ok (.ifCond .ne 5, 3) := by decide +kernel
theorem dX12_tried_73 : decode cX12_tried 73 = .ok (.iconst (-1), 1) := by decide +kernel
theorem dX12_tried_74 : decode cX12_tried 74 = .ok (.ireturn, 1) := by decide +kernel
theorem dX12_tried_75 : decode cX12_tried 75 = .ok (.aload_n 0, 1) := by decide +kernel
theorem dX12_tried_76 : decode cX12_tried 76 = .ok (.getfield 7, 3) := by decide +kernel
theorem dX12_tried_79 : decode cX12_tried 79 = .ok (.aload_n 0, 1) := by decide +kernel
theorem dX12_tried_80 : decode cX12_tried 80 = .ok (.getfield 13, 3) := by decide +kernel
theorem dX12_tried_83 : decode cX12_tried 83 = .ok (.invokestatic 294, 3) := by decide +kernel
theorem dX12_tried_86 : decode cX12_tried 86 = .ok (.aload_n 0, 1) := by decide +kernel
theorem dX12_tried_87 : decode cX12_tried 87 = .ok (.iload_n 1, 1) := by decide +kernel
theorem dX12_tried_88 : decode cX12_tried 88 = .ok (.invokevirtual 291, 3) := by decide +kernel
theorem dX12_tried_91 : decode cX12_tried 91 = .ok (.iload_n 2, 1) := by decide +kernel
theorem dX12_tried_92 : decode cX12_tried 92 = .ok (.ifCond .ne 10, 3) := by decide +kernel
theorem dX12_tried_95 : decode cX12_tried 95 = .ok (.aload_n 0, 1) := by decide +kernel
theorem dX12_tried_96 : decode cX12_tried 96 = .ok (.getfield 266, 3) := by decide +kernel
theorem dX12_tried_99 : decode cX12_tried 99 = .ok (.goto 74, 3) := by decide +kernel
theorem dX12_tried_102 : decode cX12_tried 102 = .ok (.iload_n 2, 1) := by decide +kernel
theorem dX12_tried_103 : decode cX12_tried 103 = .ok (.iconst 1, 1) := by decide +kernel
theorem dX12_tried_104 : decode cX12_tried 104 = .ok (.if_icmp .ne 10, 3) := by decide +kernel
theorem dX12_tried_107 : decode cX12_tried 107 = .ok (.aload_n 0, 1) := by decide +kernel
theorem dX12_tried_108 : decode cX12_tried 108 = .ok (.getfield 269, 3) := by decide +kernel
theorem dX12_tried_111 : decode cX12_tried 111 = .ok (.goto 62, 3) := by decide +kernel
theorem dX12_tried_114 : decode cX12_tried 114 = .ok (.iload_n 2, 1) := by decide +kernel
theorem dX12_tried_115 : decode cX12_tried 115 = .ok (.iconst 2, 1) := by decide +kernel
theorem dX12_tried_116 : decode cX12_tried 116 = .ok (.if_icmp .ne 16, 3) := by decide +kernel
theorem dX12_tried_119 : decode cX12_tried 119 = .ok (.aload_n 0, 1) := by decide +kernel
theorem dX12_tried_120 : decode cX12_tried 120 = .ok (.getfield 7, 3) := by decide +kernel
theorem dX12_tried_123 : decode cX12_tried 123 = .ok (.bipush 77, 2) := by decide +kernel
theorem dX12_tried_125 : decode cX12_tried 125 = .ok (.iaload, 1) := by decide +kernel
theorem dX12_tried_126 : decode cX12_tried 126 = .ok (.invokestatic 247, 3) := by decide +kernel
theorem dX12_tried_129 : decode cX12_tried 129 = .ok (.goto 44, 3) := by decide +kernel
theorem dX12_tried_132 : decode cX12_tried 132 = .ok (.iload_n 2, 1) := by decide +kernel
theorem dX12_tried_133 : decode cX12_tried 133 = .ok (.iconst 3, 1) := by decide +kernel
theorem dX12_tried_134 : decode cX12_tried 134 = .ok (.if_icmp .ne 10, 3) := by decide +kernel
theorem dX12_tried_137 : decode cX12_tried 137 = .ok (.aload_n 0, 1) := by decide +kernel
theorem dX12_tried_138 : decode cX12_tried 138 = .ok (.getfield 281, 3) := by decide +kernel
theorem dX12_tried_141 : decode cX12_tried 141 = .ok (.goto 32, 3) := by decide +kernel
theorem dX12_tried_144 : decode cX12_tried 144 = .ok (.iload_n 2, 1) := by decide +kernel
theorem dX12_tried_145 : decode cX12_tried 145 = .ok (.bipush 20, 2) := by decide +kernel
theorem dX12_tried_147 : decode cX12_tried 147 = .ok (.if_icmp .ge 17, 3) := by decide +kernel
theorem dX12_tried_150 : decode cX12_tried 150 = .ok (.aload_n 0, 1) := by decide +kernel
theorem dX12_tried_151 : decode cX12_tried 151 = .ok (.getfield 7, 3) := by decide +kernel
theorem dX12_tried_154 : decode cX12_tried 154 = .ok (.iconst 4, 1) := by decide +kernel
theorem dX12_tried_155 : decode cX12_tried 155 = .ok (.iload_n 2, 1) := by decide +kernel
theorem dX12_tried_156 : decode cX12_tried 156 = .ok (.iadd, 1) := by decide +kernel
theorem dX12_tried_157 : decode cX12_tried 157 = .ok (.bipush 10, 2) := by decide +kernel
theorem dX12_tried_159 : decode cX12_tried 159 = .ok (.isub, 1) := by decide +kernel
theorem dX12_tried_160 : decode cX12_tried 160 = .ok (.iaload, 1) := by decide +kernel
theorem dX12_tried_161 : decode cX12_tried 161 = .ok (.goto 12, 3) := by decide +kernel
theorem dX12_tried_173 : decode cX12_tried 173 = .ok (.istore 4, 2) := by decide +kernel
theorem dX12_tried_175 : decode cX12_tried 175 = .ok (.aload_n 0, 1) := by decide +kernel
theorem dX12_tried_176 : decode cX12_tried 176 = .ok (.getfield 13, 3) := by decide +kernel
theorem dX12_tried_179 : decode cX12_tried 179 = .ok (.aload_n 0, 1) := by decide +kernel
theorem dX12_tried_180 : decode cX12_tried 180 = .ok (.getfield 7, 3) := by decide +kernel
theorem dX12_tried_183 : decode cX12_tried 183 = .ok (.invokestatic 294, 3) := by decide +kernel
theorem dX12_tried_186 : decode cX12_tried 186 = .ok (.iload 4, 2) := by decide +kernel
theorem dX12_tried_188 : decode cX12_tried 188 = .ok (.ireturn, 1) := by decide +kernel
set_option maxHeartbeats 4000000 in
set_option maxRecDepth 100000 in
theorem g_tried (l : Launch) (D : va_G) (cy : Nat → ClassId) (ad : Nat → Nat) (V J : Nat → Nat → Int) (Rr : Nat → Nat → Nat) (hV : VR V) (hJ : VJ J) (x1 x2 : Int) (hx1 : R32 x1) (hx2 : R32 x2) (h76 : V 1 76 = 0) (h78 : V 1 78 = 0) (htp : V 0 4 = 0) (h77 : V 1 77 = 0) (h79 : V 1 79 = 0) : xMi l D (xTY cy) yX12_tried cX12_tried 5 (some .int) 5 107 0 0 [.ref (ad 0), vI x1, vI x2] (MW cy ad V J Rr) (fun u : xS => MW cy ad u.1 u.2.1 u.2.2) (fun r _ => (1 ≤ x1 ∧ x1 ≤ 60 ∧ 0 ≤ x2 ∧ x2 ≤ 3 ∧ r = 0) ∨ (¬ (1 ≤ x1 ∧ x1 ≤ 60 ∧ 0 ≤ x2 ∧ x2 ≤ 3) ∧ r = -1)) := by
  refine xMi.mk (lv0 := [(0, .ref (ad 0)), (1, vI x1), (2, vI x2)]) (by decide) rfl (Nat.le_of_ble_eq_true rfl) (fun p e s m below meth c A C hr hnm hAe => ?_)
  have C : xC2 p s m _ meth c D A s.heap 5 cX12_tried RX12 (xTY cy) := C
  refine x_iload_n C.1 dX12_tried_0 2 rfl ?_
  refine x_iconst C.1 (n := 0) dX12_tried_1 ?_
  refine x_iconst C.1 (n := 3) dX12_tried_2 ?_
  refine x_callSi C (As := [vI x2, vI 0, vI 3]) (rest := []) (c_in l D cy x2 0 3 hx2 (by decide) (by decide)) (l1 := []) (l2 := _) rfl (w2 := fun _ => _) (fun _ => rfl) rfl wm_yX12_in wn_X12 wl_X12_126 wi_yX12_in hd_yX12_in rfl ⟨Nat.le_of_ble_eq_true rfl, Nat.le_of_ble_eq_true rfl⟩ (Nat.le_of_ble_eq_true rfl) ⟨Nat.le_of_ble_eq_true rfl, Nat.le_of_ble_eq_true rfl⟩ dX12_tried_3 (fun r1 u1 hr1 h1 => ?_)
  rcases h1 with ⟨rfl, t1, t1b⟩ | ⟨rfl, t1⟩
  · refine x_if_ne_t C.1 (tgt := 53) dX12_tried_6 (by decide) (by decide) (by decide) ?_
    refine x_iconst C.1 (n := 1) dX12_tried_53 ?_
    refine x_goto C.1 (tgt := 58) dX12_tried_54 (by decide) ?_
    refine x_istore_n C.1 (lv' := [(3, vI 1), (0, .ref (ad 0)), (1, vI x1), (2, vI x2)]) dX12_tried_58 (by decide) rfl ?_
    refine x_iload_n C.1 dX12_tried_59 2 rfl ?_
    refine x_iconst C.1 (n := 1) dX12_tried_60 ?_
    refine x_bipush C.1 (n := 60) dX12_tried_61 ?_
    refine x_callSi C (As := [vI x1, vI 1, vI 60]) (rest := []) (c_in l D cy x1 1 60 hx1 (by decide) (by decide)) (l1 := []) (l2 := _) rfl (w2 := fun _ => _) (fun _ => rfl) rfl wm_yX12_in wn_X12 wl_X12_126 wi_yX12_in hd_yX12_in rfl ⟨Nat.le_of_ble_eq_true rfl, Nat.le_of_ble_eq_true rfl⟩ (Nat.le_of_ble_eq_true rfl) ⟨Nat.le_of_ble_eq_true rfl, Nat.le_of_ble_eq_true rfl⟩ dX12_tried_63 (fun r2 u2 hr2 h2 => ?_)
    rcases h2 with ⟨rfl, t2, t2b⟩ | ⟨rfl, t2⟩
    · refine x_if_eq_f C.1 (tgt := 73) dX12_tried_66 (by decide) (by decide) (by decide) ?_
      refine x_iload_n C.1 dX12_tried_69 0 rfl ?_
      refine x_if_ne_t C.1 (tgt := 75) dX12_tried_70 (by decide) (by decide) (by decide) ?_
      refine x_aload_n C.1 dX12_tried_75 1 rfl ?_
      refine x_getA C (N := 33) (i := 0) (by decide) rfl vc_X12 wx_X12 0 (by decide) wf_X12_7 (a := 1) rfl dX12_tried_76 ?_
      refine x_aload_n C.1 dX12_tried_79 1 rfl ?_
      refine x_getA C (N := 33) (i := 0) (by decide) rfl vc_X12 wx_X12 1 (by decide) wf_X12_13 (a := 2) rfl dX12_tried_80 ?_
      refine x_callSv C (As := [.ref (ad 1), .ref (ad 2)]) (rest := []) (c_copies l D cy ad V J Rr hV hJ 1 2 (by decide) (by decide) rfl rfl (by decide)) (l1 := []) (l2 := []) (List.append_nil _).symm (w2 := fun u : xS => MW cy ad u.1 u.2.1 u.2.2) (fun _ => List.append_nil _) rfl wm_yX12_copies wn_X12 wl_X12_294 wi_yX12_copies hd_yX12_copies rfl ⟨Nat.le_of_ble_eq_true rfl, Nat.le_of_ble_eq_true rfl⟩ (Nat.le_of_ble_eq_true rfl) ⟨Nat.le_of_ble_eq_true rfl, Nat.le_of_ble_eq_true rfl⟩ dX12_tried_83 (fun u3 h3 => ?_)
      obtain rfl := h3
      try dsimp only
      refine x_aload_n C.1 dX12_tried_86 1 rfl ?_
      refine x_iload_n C.1 dX12_tried_87 2 rfl ?_
      refine x_callVv C (As := [vI x1]) (rest := []) 0 (xw_at (N := 33) (i := 0) (by decide) rfl) vc_X12 (g_daysGo l D cy ad (cpN V 1 2 81) J Rr (cpN_VR hV) hJ x1 hx1 (by rw [cpN_n (by decide)]; exact h76) (by rw [cpN_n (by decide)]; exact h78) (by rw [cpN_n (by decide)]; exact htp) (by rw [cpN_n (by decide)]; omega)) (l1 := []) (l2 := []) (List.append_nil _).symm (w2 := fun u : xS => MW cy ad u.1 u.2.1 u.2.2) (fun _ => List.append_nil _) rfl wm_yX12_daysGo wn_X12 wl_X12_291 wi_yX12_daysGo we_yX12_daysGo hd_yX12_daysGo rfl ⟨Nat.le_of_ble_eq_true rfl, Nat.le_of_ble_eq_true rfl⟩ (Nat.le_of_ble_eq_true rfl) ⟨Nat.le_of_ble_eq_true rfl, Nat.le_of_ble_eq_true rfl⟩ dX12_tried_88 (fun u4 h4 => ?_)
      obtain ⟨zV4, zJ4, zR4⟩ := u4
      obtain ⟨hzb4, hc27, hc28, hc29, hc77, hzd4⟩ := h4
      obtain ⟨rfl, rfl⟩ := Prod.mk.inj hzd4
      try dsimp only at hzb4 hc27 hc28 hc29 hc77 ⊢
      refine x_iload_n C.1 dX12_tried_91 3 rfl ?_
      refine x_if_ne C.1 (tgt := 102) dX12_tried_92 (by decide) hx2 (fun c92_5 => ?_) (fun c92_5 => ?_)
      · refine x_iload_n C.1 dX12_tried_102 3 rfl ?_
        refine x_iconst C.1 (n := 1) dX12_tried_103 ?_
        refine x_icmp_ne C.1 (tgt := 114) dX12_tried_104 (by decide) hx2 (by decide) (fun c104_6 => ?_) (fun c104_6 => ?_)
        · refine x_iload_n C.1 dX12_tried_114 3 rfl ?_
          refine x_iconst C.1 (n := 2) dX12_tried_115 ?_
          refine x_icmp_ne C.1 (tgt := 132) dX12_tried_116 (by decide) hx2 (by decide) (fun c116_7 => ?_) (fun c116_7 => ?_)
          · refine x_iload_n C.1 dX12_tried_132 3 rfl ?_
            refine x_iconst C.1 (n := 3) dX12_tried_133 ?_
            refine x_icmp_ne C.1 (tgt := 144) dX12_tried_134 (by decide) hx2 (by decide) (fun c134_8 => ?_) (fun c134_8 => ?_)
            · refine x_iload_n C.1 dX12_tried_144 3 rfl ?_
              refine x_bipush C.1 (n := 20) dX12_tried_145 ?_
              refine x_icmp_ge_f C.1 (tgt := 164) dX12_tried_147 (by decide) hx2 (by decide) (by omega) ?_
              refine x_aload_n C.1 dX12_tried_150 1 rfl ?_
              refine x_getA C (N := 33) (i := 0) (by decide) rfl vc_X12 wx_X12 0 (by decide) wf_X12_7 (a := 1) rfl dX12_tried_151 ?_
              refine x_iconst C.1 (n := 4) dX12_tried_154 ?_
              refine x_iload_n C.1 dX12_tried_155 3 rfl ?_
              refine x_iadd C.1 (v := 4 + x2) rfl dX12_tried_156 ?_
              refine x_bipush C.1 (n := 10) dX12_tried_157 ?_
              refine x_isub C.1 (v := (4 + x2) - 10) rfl dX12_tried_159 ?_
              refine x_iald C (N := 33) (i := 1) (q := (4 + x2) - 10) (by decide) rfl (by omega) (by decide) dX12_tried_160 (a := zV4 1 (((4 + x2) - 10).toNat)) rfl ?_
              refine x_goto C.1 (tgt := 173) dX12_tried_161 (by decide) ?_
              refine x_istore C.1 (lv' := [(4, vI (zV4 1 (((4 + x2) - 10).toNat))), (3, vI 1), (0, .ref (ad 0)), (1, vI x1), (2, vI x2)]) dX12_tried_173 (by decide) rfl ?_
              refine x_aload_n C.1 dX12_tried_175 2 rfl ?_
              refine x_getA C (N := 33) (i := 0) (by decide) rfl vc_X12 wx_X12 1 (by decide) wf_X12_13 (a := 2) rfl dX12_tried_176 ?_
              refine x_aload_n C.1 dX12_tried_179 2 rfl ?_
              refine x_getA C (N := 33) (i := 0) (by decide) rfl vc_X12 wx_X12 0 (by decide) wf_X12_7 (a := 1) rfl dX12_tried_180 ?_
              refine x_callSv C (As := [.ref (ad 2), .ref (ad 1)]) (rest := []) (c_copies l D cy ad zV4 J Rr hzb4 hJ 2 1 (by decide) (by decide) rfl rfl (by decide)) (l1 := []) (l2 := []) (List.append_nil _).symm (w2 := fun u : xS => MW cy ad u.1 u.2.1 u.2.2) (fun _ => List.append_nil _) rfl wm_yX12_copies wn_X12 wl_X12_294 wi_yX12_copies hd_yX12_copies rfl ⟨Nat.le_of_ble_eq_true rfl, Nat.le_of_ble_eq_true rfl⟩ (Nat.le_of_ble_eq_true rfl) ⟨Nat.le_of_ble_eq_true rfl, Nat.le_of_ble_eq_true rfl⟩ dX12_tried_183 (fun u9 h9 => ?_)
              obtain rfl := h9
              try dsimp only
              refine x_iload C.1 dX12_tried_186 0 rfl ?_
              exact x_iret (S := xS) (post := fun r _ => (1 ≤ x1 ∧ x1 ≤ 60 ∧ 0 ≤ x2 ∧ x2 ≤ 3 ∧ r = 0) ∨ (¬ (1 ≤ x1 ∧ x1 ≤ 60 ∧ 0 ≤ x2 ∧ x2 ≤ 3) ∧ r = -1)) (w1 := fun u : xS => MW cy ad u.1 u.2.1 u.2.2) (a := zV4 1 (((4 + x2) - 10).toNat)) C hr rfl dX12_tried_188 (hzb4 _ _) ((cpN zV4 2 1 81), J, Rr) rfl (by omega)
            · refine x_aload_n C.1 dX12_tried_137 1 rfl ?_
              refine x_getI C (N := 33) (i := 0) (by decide) rfl vc_X12 wx_X12 29 (by decide) wf_X12_281 rfl dX12_tried_138 (a := 0) hc29 ?_
              refine x_goto C.1 (tgt := 173) dX12_tried_141 (by decide) ?_
              refine x_istore C.1 (lv' := [(4, vI 0), (3, vI 1), (0, .ref (ad 0)), (1, vI x1), (2, vI x2)]) dX12_tried_173 (by decide) rfl ?_
              refine x_aload_n C.1 dX12_tried_175 2 rfl ?_
              refine x_getA C (N := 33) (i := 0) (by decide) rfl vc_X12 wx_X12 1 (by decide) wf_X12_13 (a := 2) rfl dX12_tried_176 ?_
              refine x_aload_n C.1 dX12_tried_179 2 rfl ?_
              refine x_getA C (N := 33) (i := 0) (by decide) rfl vc_X12 wx_X12 0 (by decide) wf_X12_7 (a := 1) rfl dX12_tried_180 ?_
              refine x_callSv C (As := [.ref (ad 2), .ref (ad 1)]) (rest := []) (c_copies l D cy ad zV4 J Rr hzb4 hJ 2 1 (by decide) (by decide) rfl rfl (by decide)) (l1 := []) (l2 := []) (List.append_nil _).symm (w2 := fun u : xS => MW cy ad u.1 u.2.1 u.2.2) (fun _ => List.append_nil _) rfl wm_yX12_copies wn_X12 wl_X12_294 wi_yX12_copies hd_yX12_copies rfl ⟨Nat.le_of_ble_eq_true rfl, Nat.le_of_ble_eq_true rfl⟩ (Nat.le_of_ble_eq_true rfl) ⟨Nat.le_of_ble_eq_true rfl, Nat.le_of_ble_eq_true rfl⟩ dX12_tried_183 (fun u10 h10 => ?_)
              obtain rfl := h10
              try dsimp only
              refine x_iload C.1 dX12_tried_186 0 rfl ?_
              exact x_iret (S := xS) (post := fun r _ => (1 ≤ x1 ∧ x1 ≤ 60 ∧ 0 ≤ x2 ∧ x2 ≤ 3 ∧ r = 0) ∨ (¬ (1 ≤ x1 ∧ x1 ≤ 60 ∧ 0 ≤ x2 ∧ x2 ≤ 3) ∧ r = -1)) (w1 := fun u : xS => MW cy ad u.1 u.2.1 u.2.2) (a := 0) C hr rfl dX12_tried_188 (by decide) ((cpN zV4 2 1 81), J, Rr) rfl (by omega)
          · refine x_aload_n C.1 dX12_tried_119 1 rfl ?_
            refine x_getA C (N := 33) (i := 0) (by decide) rfl vc_X12 wx_X12 0 (by decide) wf_X12_7 (a := 1) rfl dX12_tried_120 ?_
            refine x_bipush C.1 (n := 77) dX12_tried_123 ?_
            refine x_iald C (N := 33) (i := 1) (q := 77) (by decide) rfl (by decide) (by decide) dX12_tried_125 (a := 0) (hc77.trans (by rw [cpN_n (by decide)]; exact h77)) ?_
            refine x_callSi C (As := [vI 0]) (rest := []) (c_bits l D cy 0 (by decide)) (l1 := []) (l2 := _) rfl (w2 := fun _ => _) (fun _ => rfl) rfl wm_yX12_bits wn_X12 wl_X12_247 wi_yX12_bits hd_yX12_bits rfl ⟨Nat.le_of_ble_eq_true rfl, Nat.le_of_ble_eq_true rfl⟩ (Nat.le_of_ble_eq_true rfl) ⟨Nat.le_of_ble_eq_true rfl, Nat.le_of_ble_eq_true rfl⟩ dX12_tried_126 (fun r11 u11 hr11 h11 => ?_)
            obtain ⟨t11, t11b⟩ := h11
            obtain rfl := t11b rfl
            refine x_goto C.1 (tgt := 173) dX12_tried_129 (by decide) ?_
            refine x_istore C.1 (lv' := [(4, vI 0), (3, vI 1), (0, .ref (ad 0)), (1, vI x1), (2, vI x2)]) dX12_tried_173 (by decide) rfl ?_
            refine x_aload_n C.1 dX12_tried_175 2 rfl ?_
            refine x_getA C (N := 33) (i := 0) (by decide) rfl vc_X12 wx_X12 1 (by decide) wf_X12_13 (a := 2) rfl dX12_tried_176 ?_
            refine x_aload_n C.1 dX12_tried_179 2 rfl ?_
            refine x_getA C (N := 33) (i := 0) (by decide) rfl vc_X12 wx_X12 0 (by decide) wf_X12_7 (a := 1) rfl dX12_tried_180 ?_
            refine x_callSv C (As := [.ref (ad 2), .ref (ad 1)]) (rest := []) (c_copies l D cy ad zV4 J Rr hzb4 hJ 2 1 (by decide) (by decide) rfl rfl (by decide)) (l1 := []) (l2 := []) (List.append_nil _).symm (w2 := fun u : xS => MW cy ad u.1 u.2.1 u.2.2) (fun _ => List.append_nil _) rfl wm_yX12_copies wn_X12 wl_X12_294 wi_yX12_copies hd_yX12_copies rfl ⟨Nat.le_of_ble_eq_true rfl, Nat.le_of_ble_eq_true rfl⟩ (Nat.le_of_ble_eq_true rfl) ⟨Nat.le_of_ble_eq_true rfl, Nat.le_of_ble_eq_true rfl⟩ dX12_tried_183 (fun u12 h12 => ?_)
            obtain rfl := h12
            try dsimp only
            refine x_iload C.1 dX12_tried_186 0 rfl ?_
            exact x_iret (S := xS) (post := fun r _ => (1 ≤ x1 ∧ x1 ≤ 60 ∧ 0 ≤ x2 ∧ x2 ≤ 3 ∧ r = 0) ∨ (¬ (1 ≤ x1 ∧ x1 ≤ 60 ∧ 0 ≤ x2 ∧ x2 ≤ 3) ∧ r = -1)) (w1 := fun u : xS => MW cy ad u.1 u.2.1 u.2.2) (a := 0) C hr rfl dX12_tried_188 (by decide) ((cpN zV4 2 1 81), J, Rr) rfl (by omega)
        · refine x_aload_n C.1 dX12_tried_107 1 rfl ?_
          refine x_getI C (N := 33) (i := 0) (by decide) rfl vc_X12 wx_X12 28 (by decide) wf_X12_269 rfl dX12_tried_108 (a := 0) hc28 ?_
          refine x_goto C.1 (tgt := 173) dX12_tried_111 (by decide) ?_
          refine x_istore C.1 (lv' := [(4, vI 0), (3, vI 1), (0, .ref (ad 0)), (1, vI x1), (2, vI x2)]) dX12_tried_173 (by decide) rfl ?_
          refine x_aload_n C.1 dX12_tried_175 2 rfl ?_
          refine x_getA C (N := 33) (i := 0) (by decide) rfl vc_X12 wx_X12 1 (by decide) wf_X12_13 (a := 2) rfl dX12_tried_176 ?_
          refine x_aload_n C.1 dX12_tried_179 2 rfl ?_
          refine x_getA C (N := 33) (i := 0) (by decide) rfl vc_X12 wx_X12 0 (by decide) wf_X12_7 (a := 1) rfl dX12_tried_180 ?_
          refine x_callSv C (As := [.ref (ad 2), .ref (ad 1)]) (rest := []) (c_copies l D cy ad zV4 J Rr hzb4 hJ 2 1 (by decide) (by decide) rfl rfl (by decide)) (l1 := []) (l2 := []) (List.append_nil _).symm (w2 := fun u : xS => MW cy ad u.1 u.2.1 u.2.2) (fun _ => List.append_nil _) rfl wm_yX12_copies wn_X12 wl_X12_294 wi_yX12_copies hd_yX12_copies rfl ⟨Nat.le_of_ble_eq_true rfl, Nat.le_of_ble_eq_true rfl⟩ (Nat.le_of_ble_eq_true rfl) ⟨Nat.le_of_ble_eq_true rfl, Nat.le_of_ble_eq_true rfl⟩ dX12_tried_183 (fun u13 h13 => ?_)
          obtain rfl := h13
          try dsimp only
          refine x_iload C.1 dX12_tried_186 0 rfl ?_
          exact x_iret (S := xS) (post := fun r _ => (1 ≤ x1 ∧ x1 ≤ 60 ∧ 0 ≤ x2 ∧ x2 ≤ 3 ∧ r = 0) ∨ (¬ (1 ≤ x1 ∧ x1 ≤ 60 ∧ 0 ≤ x2 ∧ x2 ≤ 3) ∧ r = -1)) (w1 := fun u : xS => MW cy ad u.1 u.2.1 u.2.2) (a := 0) C hr rfl dX12_tried_188 (by decide) ((cpN zV4 2 1 81), J, Rr) rfl (by omega)
      · refine x_aload_n C.1 dX12_tried_95 1 rfl ?_
        refine x_getI C (N := 33) (i := 0) (by decide) rfl vc_X12 wx_X12 27 (by decide) wf_X12_266 rfl dX12_tried_96 (a := 0) hc27 ?_
        refine x_goto C.1 (tgt := 173) dX12_tried_99 (by decide) ?_
        refine x_istore C.1 (lv' := [(4, vI 0), (3, vI 1), (0, .ref (ad 0)), (1, vI x1), (2, vI x2)]) dX12_tried_173 (by decide) rfl ?_
        refine x_aload_n C.1 dX12_tried_175 2 rfl ?_
        refine x_getA C (N := 33) (i := 0) (by decide) rfl vc_X12 wx_X12 1 (by decide) wf_X12_13 (a := 2) rfl dX12_tried_176 ?_
        refine x_aload_n C.1 dX12_tried_179 2 rfl ?_
        refine x_getA C (N := 33) (i := 0) (by decide) rfl vc_X12 wx_X12 0 (by decide) wf_X12_7 (a := 1) rfl dX12_tried_180 ?_
        refine x_callSv C (As := [.ref (ad 2), .ref (ad 1)]) (rest := []) (c_copies l D cy ad zV4 J Rr hzb4 hJ 2 1 (by decide) (by decide) rfl rfl (by decide)) (l1 := []) (l2 := []) (List.append_nil _).symm (w2 := fun u : xS => MW cy ad u.1 u.2.1 u.2.2) (fun _ => List.append_nil _) rfl wm_yX12_copies wn_X12 wl_X12_294 wi_yX12_copies hd_yX12_copies rfl ⟨Nat.le_of_ble_eq_true rfl, Nat.le_of_ble_eq_true rfl⟩ (Nat.le_of_ble_eq_true rfl) ⟨Nat.le_of_ble_eq_true rfl, Nat.le_of_ble_eq_true rfl⟩ dX12_tried_183 (fun u14 h14 => ?_)
        obtain rfl := h14
        try dsimp only
        refine x_iload C.1 dX12_tried_186 0 rfl ?_
        exact x_iret (S := xS) (post := fun r _ => (1 ≤ x1 ∧ x1 ≤ 60 ∧ 0 ≤ x2 ∧ x2 ≤ 3 ∧ r = 0) ∨ (¬ (1 ≤ x1 ∧ x1 ≤ 60 ∧ 0 ≤ x2 ∧ x2 ≤ 3) ∧ r = -1)) (w1 := fun u : xS => MW cy ad u.1 u.2.1 u.2.2) (a := 0) C hr rfl dX12_tried_188 (by decide) ((cpN zV4 2 1 81), J, Rr) rfl (by omega)
    · refine x_if_eq_t C.1 (tgt := 73) dX12_tried_66 (by decide) (by decide) (by decide) ?_
      refine x_iconst C.1 (n := -1) dX12_tried_73 ?_
      exact x_iret (S := xS) (post := fun r _ => (1 ≤ x1 ∧ x1 ≤ 60 ∧ 0 ≤ x2 ∧ x2 ≤ 3 ∧ r = 0) ∨ (¬ (1 ≤ x1 ∧ x1 ≤ 60 ∧ 0 ≤ x2 ∧ x2 ≤ 3) ∧ r = -1)) (w1 := fun u : xS => MW cy ad u.1 u.2.1 u.2.2) (a := (-1)) C hr rfl dX12_tried_74 (by decide) (V, J, Rr) rfl (by omega)
  · refine x_if_ne_f C.1 (tgt := 53) dX12_tried_6 (by decide) (by decide) (by decide) ?_
    refine x_iload_n C.1 dX12_tried_9 2 rfl ?_
    refine x_bipush C.1 (n := 10) dX12_tried_10 ?_
    refine x_bipush C.1 (n := 13) dX12_tried_12 ?_
    refine x_callSi C (As := [vI x2, vI 10, vI 13]) (rest := []) (c_in l D cy x2 10 13 hx2 (by decide) (by decide)) (l1 := []) (l2 := _) rfl (w2 := fun _ => _) (fun _ => rfl) rfl wm_yX12_in wn_X12 wl_X12_126 wi_yX12_in hd_yX12_in rfl ⟨Nat.le_of_ble_eq_true rfl, Nat.le_of_ble_eq_true rfl⟩ (Nat.le_of_ble_eq_true rfl) ⟨Nat.le_of_ble_eq_true rfl, Nat.le_of_ble_eq_true rfl⟩ dX12_tried_14 (fun r15 u15 hr15 h15 => ?_)
    rcases h15 with ⟨rfl, t15, t15b⟩ | ⟨rfl, t15⟩
    · refine x_if_eq_f C.1 (tgt := 31) dX12_tried_17 (by decide) (by decide) (by decide) ?_
      refine x_aload_n C.1 dX12_tried_20 0 rfl ?_
      refine x_iload_n C.1 dX12_tried_21 2 rfl ?_
      refine x_bipush C.1 (n := 10) dX12_tried_22 ?_
      refine x_isub C.1 (v := x2 - 10) rfl dX12_tried_24 ?_
      refine x_callVi C (As := [vI (x2 - 10)]) (rest := []) 0 (xw_at (N := 33) (i := 0) (by decide) rfl) vc_X12 (g_isPlant l D cy ad V J Rr hV hJ (x2 - 10) (by omega) h76 h78 htp) (l1 := []) (l2 := []) (List.append_nil _).symm (w2 := fun _ => MW cy ad V J Rr) (fun _ => List.append_nil _) rfl wm_yX12_isPlant wn_X12 wl_X12_122 wi_yX12_isPlant we_yX12_isPlant hd_yX12_isPlant rfl ⟨Nat.le_of_ble_eq_true rfl, Nat.le_of_ble_eq_true rfl⟩ (Nat.le_of_ble_eq_true rfl) ⟨Nat.le_of_ble_eq_true rfl, Nat.le_of_ble_eq_true rfl⟩ dX12_tried_25 (fun r16 u16 hr16 h16 => ?_)
      obtain rfl := h16
      refine x_if_ne_f C.1 (tgt := 53) dX12_tried_28 (by decide) (by decide) (by decide) ?_
      refine x_iload_n C.1 dX12_tried_31 2 rfl ?_
      refine x_bipush C.1 (n := 20) dX12_tried_32 ?_
      refine x_bipush C.1 (n := 27) dX12_tried_34 ?_
      refine x_callSi C (As := [vI x2, vI 20, vI 27]) (rest := []) (c_in l D cy x2 20 27 hx2 (by decide) (by decide)) (l1 := []) (l2 := _) rfl (w2 := fun _ => _) (fun _ => rfl) rfl wm_yX12_in wn_X12 wl_X12_126 wi_yX12_in hd_yX12_in rfl ⟨Nat.le_of_ble_eq_true rfl, Nat.le_of_ble_eq_true rfl⟩ (Nat.le_of_ble_eq_true rfl) ⟨Nat.le_of_ble_eq_true rfl, Nat.le_of_ble_eq_true rfl⟩ dX12_tried_36 (fun r17 u17 hr17 h17 => ?_)
      rcases h17 with ⟨rfl, t17, t17b⟩ | ⟨rfl, t17⟩
      · refine x_if_eq_f C.1 (tgt := 57) dX12_tried_39 (by decide) (by decide) (by decide) ?_
        refine x_aload_n C.1 dX12_tried_42 0 rfl ?_
        refine x_iload_n C.1 dX12_tried_43 2 rfl ?_
        refine x_bipush C.1 (n := 20) dX12_tried_44 ?_
        refine x_isub C.1 (v := x2 - 20) rfl dX12_tried_46 ?_
        refine x_callVi C (As := [vI (x2 - 20)]) (rest := []) 0 (xw_at (N := 33) (i := 0) (by decide) rfl) vc_X12 (g_isPerson l D cy ad V J Rr hV hJ (x2 - 20) (by omega) h76 h78 htp) (l1 := []) (l2 := []) (List.append_nil _).symm (w2 := fun _ => MW cy ad V J Rr) (fun _ => List.append_nil _) rfl wm_yX12_isPerson wn_X12 wl_X12_259 wi_yX12_isPerson we_yX12_isPerson hd_yX12_isPerson rfl ⟨Nat.le_of_ble_eq_true rfl, Nat.le_of_ble_eq_true rfl⟩ (Nat.le_of_ble_eq_true rfl) ⟨Nat.le_of_ble_eq_true rfl, Nat.le_of_ble_eq_true rfl⟩ dX12_tried_47 (fun r18 u18 hr18 h18 => ?_)
        obtain rfl := h18
        refine x_if_eq_t C.1 (tgt := 57) dX12_tried_50 (by decide) (by decide) (by decide) ?_
        refine x_iconst C.1 (n := 0) dX12_tried_57 ?_
        refine x_istore_n C.1 (lv' := [(3, vI 0), (0, .ref (ad 0)), (1, vI x1), (2, vI x2)]) dX12_tried_58 (by decide) rfl ?_
        refine x_iload_n C.1 dX12_tried_59 2 rfl ?_
        refine x_iconst C.1 (n := 1) dX12_tried_60 ?_
        refine x_bipush C.1 (n := 60) dX12_tried_61 ?_
        refine x_callSi C (As := [vI x1, vI 1, vI 60]) (rest := []) (c_in l D cy x1 1 60 hx1 (by decide) (by decide)) (l1 := []) (l2 := _) rfl (w2 := fun _ => _) (fun _ => rfl) rfl wm_yX12_in wn_X12 wl_X12_126 wi_yX12_in hd_yX12_in rfl ⟨Nat.le_of_ble_eq_true rfl, Nat.le_of_ble_eq_true rfl⟩ (Nat.le_of_ble_eq_true rfl) ⟨Nat.le_of_ble_eq_true rfl, Nat.le_of_ble_eq_true rfl⟩ dX12_tried_63 (fun r19 u19 hr19 h19 => ?_)
        rcases h19 with ⟨rfl, t19, t19b⟩ | ⟨rfl, t19⟩
        · refine x_if_eq_f C.1 (tgt := 73) dX12_tried_66 (by decide) (by decide) (by decide) ?_
          refine x_iload_n C.1 dX12_tried_69 0 rfl ?_
          refine x_if_ne_f C.1 (tgt := 75) dX12_tried_70 (by decide) (by decide) (by decide) ?_
          refine x_iconst C.1 (n := -1) dX12_tried_73 ?_
          exact x_iret (S := xS) (post := fun r _ => (1 ≤ x1 ∧ x1 ≤ 60 ∧ 0 ≤ x2 ∧ x2 ≤ 3 ∧ r = 0) ∨ (¬ (1 ≤ x1 ∧ x1 ≤ 60 ∧ 0 ≤ x2 ∧ x2 ≤ 3) ∧ r = -1)) (w1 := fun u : xS => MW cy ad u.1 u.2.1 u.2.2) (a := (-1)) C hr rfl dX12_tried_74 (by decide) (V, J, Rr) rfl (by omega)
        · refine x_if_eq_t C.1 (tgt := 73) dX12_tried_66 (by decide) (by decide) (by decide) ?_
          refine x_iconst C.1 (n := -1) dX12_tried_73 ?_
          exact x_iret (S := xS) (post := fun r _ => (1 ≤ x1 ∧ x1 ≤ 60 ∧ 0 ≤ x2 ∧ x2 ≤ 3 ∧ r = 0) ∨ (¬ (1 ≤ x1 ∧ x1 ≤ 60 ∧ 0 ≤ x2 ∧ x2 ≤ 3) ∧ r = -1)) (w1 := fun u : xS => MW cy ad u.1 u.2.1 u.2.2) (a := (-1)) C hr rfl dX12_tried_74 (by decide) (V, J, Rr) rfl (by omega)
      · refine x_if_eq_t C.1 (tgt := 57) dX12_tried_39 (by decide) (by decide) (by decide) ?_
        refine x_iconst C.1 (n := 0) dX12_tried_57 ?_
        refine x_istore_n C.1 (lv' := [(3, vI 0), (0, .ref (ad 0)), (1, vI x1), (2, vI x2)]) dX12_tried_58 (by decide) rfl ?_
        refine x_iload_n C.1 dX12_tried_59 2 rfl ?_
        refine x_iconst C.1 (n := 1) dX12_tried_60 ?_
        refine x_bipush C.1 (n := 60) dX12_tried_61 ?_
        refine x_callSi C (As := [vI x1, vI 1, vI 60]) (rest := []) (c_in l D cy x1 1 60 hx1 (by decide) (by decide)) (l1 := []) (l2 := _) rfl (w2 := fun _ => _) (fun _ => rfl) rfl wm_yX12_in wn_X12 wl_X12_126 wi_yX12_in hd_yX12_in rfl ⟨Nat.le_of_ble_eq_true rfl, Nat.le_of_ble_eq_true rfl⟩ (Nat.le_of_ble_eq_true rfl) ⟨Nat.le_of_ble_eq_true rfl, Nat.le_of_ble_eq_true rfl⟩ dX12_tried_63 (fun r20 u20 hr20 h20 => ?_)
        rcases h20 with ⟨rfl, t20, t20b⟩ | ⟨rfl, t20⟩
        · refine x_if_eq_f C.1 (tgt := 73) dX12_tried_66 (by decide) (by decide) (by decide) ?_
          refine x_iload_n C.1 dX12_tried_69 0 rfl ?_
          refine x_if_ne_f C.1 (tgt := 75) dX12_tried_70 (by decide) (by decide) (by decide) ?_
          refine x_iconst C.1 (n := -1) dX12_tried_73 ?_
          exact x_iret (S := xS) (post := fun r _ => (1 ≤ x1 ∧ x1 ≤ 60 ∧ 0 ≤ x2 ∧ x2 ≤ 3 ∧ r = 0) ∨ (¬ (1 ≤ x1 ∧ x1 ≤ 60 ∧ 0 ≤ x2 ∧ x2 ≤ 3) ∧ r = -1)) (w1 := fun u : xS => MW cy ad u.1 u.2.1 u.2.2) (a := (-1)) C hr rfl dX12_tried_74 (by decide) (V, J, Rr) rfl (by omega)
        · refine x_if_eq_t C.1 (tgt := 73) dX12_tried_66 (by decide) (by decide) (by decide) ?_
          refine x_iconst C.1 (n := -1) dX12_tried_73 ?_
          exact x_iret (S := xS) (post := fun r _ => (1 ≤ x1 ∧ x1 ≤ 60 ∧ 0 ≤ x2 ∧ x2 ≤ 3 ∧ r = 0) ∨ (¬ (1 ≤ x1 ∧ x1 ≤ 60 ∧ 0 ≤ x2 ∧ x2 ≤ 3) ∧ r = -1)) (w1 := fun u : xS => MW cy ad u.1 u.2.1 u.2.2) (a := (-1)) C hr rfl dX12_tried_74 (by decide) (V, J, Rr) rfl (by omega)
    · refine x_if_eq_t C.1 (tgt := 31) dX12_tried_17 (by decide) (by decide) (by decide) ?_
      refine x_iload_n C.1 dX12_tried_31 2 rfl ?_
      refine x_bipush C.1 (n := 20) dX12_tried_32 ?_
      refine x_bipush C.1 (n := 27) dX12_tried_34 ?_
      refine x_callSi C (As := [vI x2, vI 20, vI 27]) (rest := []) (c_in l D cy x2 20 27 hx2 (by decide) (by decide)) (l1 := []) (l2 := _) rfl (w2 := fun _ => _) (fun _ => rfl) rfl wm_yX12_in wn_X12 wl_X12_126 wi_yX12_in hd_yX12_in rfl ⟨Nat.le_of_ble_eq_true rfl, Nat.le_of_ble_eq_true rfl⟩ (Nat.le_of_ble_eq_true rfl) ⟨Nat.le_of_ble_eq_true rfl, Nat.le_of_ble_eq_true rfl⟩ dX12_tried_36 (fun r21 u21 hr21 h21 => ?_)
      rcases h21 with ⟨rfl, t21, t21b⟩ | ⟨rfl, t21⟩
      · refine x_if_eq_f C.1 (tgt := 57) dX12_tried_39 (by decide) (by decide) (by decide) ?_
        refine x_aload_n C.1 dX12_tried_42 0 rfl ?_
        refine x_iload_n C.1 dX12_tried_43 2 rfl ?_
        refine x_bipush C.1 (n := 20) dX12_tried_44 ?_
        refine x_isub C.1 (v := x2 - 20) rfl dX12_tried_46 ?_
        refine x_callVi C (As := [vI (x2 - 20)]) (rest := []) 0 (xw_at (N := 33) (i := 0) (by decide) rfl) vc_X12 (g_isPerson l D cy ad V J Rr hV hJ (x2 - 20) (by omega) h76 h78 htp) (l1 := []) (l2 := []) (List.append_nil _).symm (w2 := fun _ => MW cy ad V J Rr) (fun _ => List.append_nil _) rfl wm_yX12_isPerson wn_X12 wl_X12_259 wi_yX12_isPerson we_yX12_isPerson hd_yX12_isPerson rfl ⟨Nat.le_of_ble_eq_true rfl, Nat.le_of_ble_eq_true rfl⟩ (Nat.le_of_ble_eq_true rfl) ⟨Nat.le_of_ble_eq_true rfl, Nat.le_of_ble_eq_true rfl⟩ dX12_tried_47 (fun r22 u22 hr22 h22 => ?_)
        obtain rfl := h22
        refine x_if_eq_t C.1 (tgt := 57) dX12_tried_50 (by decide) (by decide) (by decide) ?_
        refine x_iconst C.1 (n := 0) dX12_tried_57 ?_
        refine x_istore_n C.1 (lv' := [(3, vI 0), (0, .ref (ad 0)), (1, vI x1), (2, vI x2)]) dX12_tried_58 (by decide) rfl ?_
        refine x_iload_n C.1 dX12_tried_59 2 rfl ?_
        refine x_iconst C.1 (n := 1) dX12_tried_60 ?_
        refine x_bipush C.1 (n := 60) dX12_tried_61 ?_
        refine x_callSi C (As := [vI x1, vI 1, vI 60]) (rest := []) (c_in l D cy x1 1 60 hx1 (by decide) (by decide)) (l1 := []) (l2 := _) rfl (w2 := fun _ => _) (fun _ => rfl) rfl wm_yX12_in wn_X12 wl_X12_126 wi_yX12_in hd_yX12_in rfl ⟨Nat.le_of_ble_eq_true rfl, Nat.le_of_ble_eq_true rfl⟩ (Nat.le_of_ble_eq_true rfl) ⟨Nat.le_of_ble_eq_true rfl, Nat.le_of_ble_eq_true rfl⟩ dX12_tried_63 (fun r23 u23 hr23 h23 => ?_)
        rcases h23 with ⟨rfl, t23, t23b⟩ | ⟨rfl, t23⟩
        · refine x_if_eq_f C.1 (tgt := 73) dX12_tried_66 (by decide) (by decide) (by decide) ?_
          refine x_iload_n C.1 dX12_tried_69 0 rfl ?_
          refine x_if_ne_f C.1 (tgt := 75) dX12_tried_70 (by decide) (by decide) (by decide) ?_
          refine x_iconst C.1 (n := -1) dX12_tried_73 ?_
          exact x_iret (S := xS) (post := fun r _ => (1 ≤ x1 ∧ x1 ≤ 60 ∧ 0 ≤ x2 ∧ x2 ≤ 3 ∧ r = 0) ∨ (¬ (1 ≤ x1 ∧ x1 ≤ 60 ∧ 0 ≤ x2 ∧ x2 ≤ 3) ∧ r = -1)) (w1 := fun u : xS => MW cy ad u.1 u.2.1 u.2.2) (a := (-1)) C hr rfl dX12_tried_74 (by decide) (V, J, Rr) rfl (by omega)
        · refine x_if_eq_t C.1 (tgt := 73) dX12_tried_66 (by decide) (by decide) (by decide) ?_
          refine x_iconst C.1 (n := -1) dX12_tried_73 ?_
          exact x_iret (S := xS) (post := fun r _ => (1 ≤ x1 ∧ x1 ≤ 60 ∧ 0 ≤ x2 ∧ x2 ≤ 3 ∧ r = 0) ∨ (¬ (1 ≤ x1 ∧ x1 ≤ 60 ∧ 0 ≤ x2 ∧ x2 ≤ 3) ∧ r = -1)) (w1 := fun u : xS => MW cy ad u.1 u.2.1 u.2.2) (a := (-1)) C hr rfl dX12_tried_74 (by decide) (V, J, Rr) rfl (by omega)
      · refine x_if_eq_t C.1 (tgt := 57) dX12_tried_39 (by decide) (by decide) (by decide) ?_
        refine x_iconst C.1 (n := 0) dX12_tried_57 ?_
        refine x_istore_n C.1 (lv' := [(3, vI 0), (0, .ref (ad 0)), (1, vI x1), (2, vI x2)]) dX12_tried_58 (by decide) rfl ?_
        refine x_iload_n C.1 dX12_tried_59 2 rfl ?_
        refine x_iconst C.1 (n := 1) dX12_tried_60 ?_
        refine x_bipush C.1 (n := 60) dX12_tried_61 ?_
        refine x_callSi C (As := [vI x1, vI 1, vI 60]) (rest := []) (c_in l D cy x1 1 60 hx1 (by decide) (by decide)) (l1 := []) (l2 := _) rfl (w2 := fun _ => _) (fun _ => rfl) rfl wm_yX12_in wn_X12 wl_X12_126 wi_yX12_in hd_yX12_in rfl ⟨Nat.le_of_ble_eq_true rfl, Nat.le_of_ble_eq_true rfl⟩ (Nat.le_of_ble_eq_true rfl) ⟨Nat.le_of_ble_eq_true rfl, Nat.le_of_ble_eq_true rfl⟩ dX12_tried_63 (fun r24 u24 hr24 h24 => ?_)
        rcases h24 with ⟨rfl, t24, t24b⟩ | ⟨rfl, t24⟩
        · refine x_if_eq_f C.1 (tgt := 73) dX12_tried_66 (by decide) (by decide) (by decide) ?_
          refine x_iload_n C.1 dX12_tried_69 0 rfl ?_
          refine x_if_ne_f C.1 (tgt := 75) dX12_tried_70 (by decide) (by decide) (by decide) ?_
          refine x_iconst C.1 (n := -1) dX12_tried_73 ?_
          exact x_iret (S := xS) (post := fun r _ => (1 ≤ x1 ∧ x1 ≤ 60 ∧ 0 ≤ x2 ∧ x2 ≤ 3 ∧ r = 0) ∨ (¬ (1 ≤ x1 ∧ x1 ≤ 60 ∧ 0 ≤ x2 ∧ x2 ≤ 3) ∧ r = -1)) (w1 := fun u : xS => MW cy ad u.1 u.2.1 u.2.2) (a := (-1)) C hr rfl dX12_tried_74 (by decide) (V, J, Rr) rfl (by omega)
        · refine x_if_eq_t C.1 (tgt := 73) dX12_tried_66 (by decide) (by decide) (by decide) ?_
          refine x_iconst C.1 (n := -1) dX12_tried_73 ?_
          exact x_iret (S := xS) (post := fun r _ => (1 ≤ x1 ∧ x1 ≤ 60 ∧ 0 ≤ x2 ∧ x2 ≤ 3 ∧ r = 0) ∨ (¬ (1 ≤ x1 ∧ x1 ≤ 60 ∧ 0 ≤ x2 ∧ x2 ≤ 3) ∧ r = -1)) (w1 := fun u : xS => MW cy ad u.1 u.2.1 u.2.2) (a := (-1)) C hr rfl dX12_tried_74 (by decide) (V, J, Rr) rfl (by omega)
theorem dX12_keep_0 : decode cX12_keep 0 = .ok (.aload_n 0, 1) := by decide +kernel
theorem dX12_keep_1 : decode cX12_keep 1 = .ok (.iconst 1, 1) := by decide +kernel
theorem dX12_keep_2 : decode cX12_keep 2 = .ok (.putfield 417, 3) := by decide +kernel
theorem dX12_keep_5 : decode cX12_keep 5 = .ok (.aload_n 0, 1) := by decide +kernel
theorem dX12_keep_6 : decode cX12_keep 6 = .ok (.getfield 7, 3) := by decide +kernel
theorem dX12_keep_9 : decode cX12_keep 9 = .ok (.aload_n 0, 1) := by decide +kernel
theorem dX12_keep_10 : decode cX12_keep 10 = .ok (.getfield 16, 3) := by decide +kernel
theorem dX12_keep_13 : decode cX12_keep 13 = .ok (.invokestatic 294, 3) := by decide +kernel
theorem dX12_keep_16 : decode cX12_keep 16 = .ok (.iconst 0, 1) := by decide +kernel
theorem dX12_keep_17 : decode cX12_keep 17 = .ok (.istore_n 1, 1) := by decide +kernel
theorem dX12_keep_18 : decode cX12_keep 18 = .ok (.iconst 0, 1) := by decide +kernel
theorem dX12_keep_19 : decode cX12_keep 19 = .ok (.istore_n 2, 1) := by decide +kernel
theorem dX12_keep_20 : decode cX12_keep 20 = .ok (.iload_n 2, 1) := by decide +kernel
theorem dX12_keep_21 : decode cX12_keep 21 = .ok (.iconst 4, 1) := by decide +kernel
theorem dX12_keep_22 : decode cX12_keep 22 = .ok (.if_icmp .ge 32, 3) := by decide +kernel
theorem dX12_keep_25 : decode cX12_keep 25 = .ok (.iload_n 1, 1) := by decide +kernel
theorem dX12_keep_26 : decode cX12_keep 26 = .ok (.aload_n 0, 1) := by decide +kernel
theorem dX12_keep_27 : decode cX12_keep 27 = .ok (.iload_n 2, 1) := by decide +kernel
theorem dX12_keep_28 : decode cX12_keep 28 = .ok (.invokevirtual 122, 3) := by decide +kernel
theorem dX12_keep_31 : decode cX12_keep 31 = .ok (.ifCond .eq 14, 3) := by decide +kernel
theorem dX12_keep_45 : decode cX12_keep 45 = .ok (.iconst 0, 1) := by decide +kernel
theorem dX12_keep_46 : decode cX12_keep 46 = .ok (.iadd, 1) := by decide +kernel
theorem dX12_keep_47 : decode cX12_keep 47 = .ok (.istore_n 1, 1) := by decide +kernel
theorem dX12_keep_48 : decode cX12_keep 48 = .ok (.iinc 2 1, 3) := by decide +kernel
theorem dX12_keep_51 : decode cX12_keep 51 = .ok (.goto (-31), 3) := by decide +kernel
theorem dX12_keep_54 : decode cX12_keep 54 = .ok (.iload_n 1, 1) := by decide +kernel
theorem dX12_keep_55 : decode cX12_keep 55 = .ok (.ireturn, 1) := by decide +kernel
set_option maxHeartbeats 4000000 in
set_option maxRecDepth 100000 in
theorem g_keep (l : Launch) (D : va_G) (cy : Nat → ClassId) (ad : Nat → Nat) (V J : Nat → Nat → Int) (Rr : Nat → Nat → Nat) (hV : VR V) (hJ : VJ J)  (h76 : V 1 76 = 0) (h78 : V 1 78 = 0) (htp : V 0 4 = 0)  : xMi l D (xTY cy) yX12_keep cX12_keep 3 (some .int) 2 42 0 0 [.ref (ad 0)] (MW cy ad V J Rr) (fun u : xS => MW cy ad u.1 u.2.1 u.2.2) (fun r _ => r = 0) := by
  refine xMi.mk (lv0 := [(0, .ref (ad 0))]) (by decide) rfl (Nat.le_of_ble_eq_true rfl) (fun p e s m below meth c A C hr hnm hAe => ?_)
  have C : xC2 p s m _ meth c D A s.heap 3 cX12_keep RX12 (xTY cy) := C
  refine x_aload_n C.1 dX12_keep_0 0 rfl ?_
  refine x_iconst C.1 (n := 1) dX12_keep_1 ?_
  refine x_putI C (N := 33) (i := 0) (by decide) rfl vc_X12 wx_X12 53 (by decide) wf_X12_417 tyX12 tyX12_ok nmX12 rfl (tyX12_ok 53 (by decide)) rfl dX12_keep_2 (by decide) (by decide) ?_
  refine x_aload_n C.1 dX12_keep_5 0 rfl ?_
  refine x_getA C (N := 33) (i := 0) (by decide) rfl vc_X12 wx_X12 0 (by decide) wf_X12_7 (a := 1) rfl dX12_keep_6 ?_
  refine x_aload_n C.1 dX12_keep_9 0 rfl ?_
  refine x_getA C (N := 33) (i := 0) (by decide) rfl vc_X12 wx_X12 2 (by decide) wf_X12_16 (a := 3) rfl dX12_keep_10 ?_
  refine x_callSv C (As := [.ref (ad 1), .ref (ad 3)]) (rest := []) (c_copies l D cy ad (up2 V 0 53 1) J Rr (VR_up hV (by decide)) hJ 1 3 (by decide) (by decide) rfl rfl (by decide)) (l1 := []) (l2 := []) (List.append_nil _).symm (w2 := fun u : xS => MW cy ad u.1 u.2.1 u.2.2) (fun _ => List.append_nil _) rfl wm_yX12_copies wn_X12 wl_X12_294 wi_yX12_copies hd_yX12_copies rfl ⟨Nat.le_of_ble_eq_true rfl, Nat.le_of_ble_eq_true rfl⟩ (Nat.le_of_ble_eq_true rfl) ⟨Nat.le_of_ble_eq_true rfl, Nat.le_of_ble_eq_true rfl⟩ dX12_keep_13 (fun u1 h1 => ?_)
  obtain rfl := h1
  try dsimp only
  refine x_iconst C.1 (n := 0) dX12_keep_16 ?_
  refine x_istore_n C.1 (lv' := [(1, vI 0), (0, .ref (ad 0))]) dX12_keep_17 (by decide) rfl ?_
  refine x_iconst C.1 (n := 0) dX12_keep_18 ?_
  refine x_istore_n C.1 (lv' := [(2, vI 0), (1, vI 0), (0, .ref (ad 0))]) dX12_keep_19 (by decide) rfl ?_
  refine x_iload_n C.1 dX12_keep_20 0 rfl ?_
  refine x_iconst C.1 (n := 4) dX12_keep_21 ?_
  refine x_icmp_ge_f C.1 (tgt := 54) dX12_keep_22 (by decide) (by decide) (by decide) (by decide) ?_
  refine x_iload_n C.1 dX12_keep_25 1 rfl ?_
  refine x_aload_n C.1 dX12_keep_26 2 rfl ?_
  refine x_iload_n C.1 dX12_keep_27 0 rfl ?_
  refine x_callVi C (As := [vI 0]) (rest := [vI 0]) 0 (xw_at (N := 33) (i := 0) (by decide) rfl) vc_X12 (g_isPlant l D cy ad (cpN (up2 V 0 53 1) 1 3 81) J Rr (cpN_VR (VR_up hV (by decide))) hJ 0 (by decide) (by rw [cpN_n (by decide), up2_c _ _ (by decide)]; exact h76) (by rw [cpN_n (by decide), up2_c _ _ (by decide)]; exact h78) (by rw [cpN_n (by decide), up2_n _ _ (Or.inr (by decide))]; exact htp)) (l1 := []) (l2 := []) (List.append_nil _).symm (w2 := fun _ => MW cy ad (cpN (up2 V 0 53 1) 1 3 81) J Rr) (fun _ => List.append_nil _) rfl wm_yX12_isPlant wn_X12 wl_X12_122 wi_yX12_isPlant we_yX12_isPlant hd_yX12_isPlant rfl ⟨Nat.le_of_ble_eq_true rfl, Nat.le_of_ble_eq_true rfl⟩ (Nat.le_of_ble_eq_true rfl) ⟨Nat.le_of_ble_eq_true rfl, Nat.le_of_ble_eq_true rfl⟩ dX12_keep_28 (fun r2 u2 hr2 h2 => ?_)
  obtain rfl := h2
  refine x_if_eq_t C.1 (tgt := 45) dX12_keep_31 (by decide) (by decide) (by decide) ?_
  refine x_iconst C.1 (n := 0) dX12_keep_45 ?_
  refine x_iadd C.1 (v := 0) (by decide) dX12_keep_46 ?_
  refine x_istore_n C.1 (lv' := [(1, vI 0), (2, vI 0), (0, .ref (ad 0))]) dX12_keep_47 (by decide) rfl ?_
  refine x_iinc C.1 (v := 1) (lv' := [(2, vI 1), (1, vI 0), (0, .ref (ad 0))]) (by decide) dX12_keep_48 1 rfl (by decide) rfl ?_
  refine x_goto C.1 (tgt := 20) dX12_keep_51 (by decide) ?_
  refine x_iload_n C.1 dX12_keep_20 0 rfl ?_
  refine x_iconst C.1 (n := 4) dX12_keep_21 ?_
  refine x_icmp_ge_f C.1 (tgt := 54) dX12_keep_22 (by decide) (by decide) (by decide) (by decide) ?_
  refine x_iload_n C.1 dX12_keep_25 1 rfl ?_
  refine x_aload_n C.1 dX12_keep_26 2 rfl ?_
  refine x_iload_n C.1 dX12_keep_27 0 rfl ?_
  refine x_callVi C (As := [vI 1]) (rest := [vI 0]) 0 (xw_at (N := 33) (i := 0) (by decide) rfl) vc_X12 (g_isPlant l D cy ad (cpN (up2 V 0 53 1) 1 3 81) J Rr (cpN_VR (VR_up hV (by decide))) hJ 1 (by decide) (by rw [cpN_n (by decide), up2_c _ _ (by decide)]; exact h76) (by rw [cpN_n (by decide), up2_c _ _ (by decide)]; exact h78) (by rw [cpN_n (by decide), up2_n _ _ (Or.inr (by decide))]; exact htp)) (l1 := []) (l2 := []) (List.append_nil _).symm (w2 := fun _ => MW cy ad (cpN (up2 V 0 53 1) 1 3 81) J Rr) (fun _ => List.append_nil _) rfl wm_yX12_isPlant wn_X12 wl_X12_122 wi_yX12_isPlant we_yX12_isPlant hd_yX12_isPlant rfl ⟨Nat.le_of_ble_eq_true rfl, Nat.le_of_ble_eq_true rfl⟩ (Nat.le_of_ble_eq_true rfl) ⟨Nat.le_of_ble_eq_true rfl, Nat.le_of_ble_eq_true rfl⟩ dX12_keep_28 (fun r3 u3 hr3 h3 => ?_)
  obtain rfl := h3
  refine x_if_eq_t C.1 (tgt := 45) dX12_keep_31 (by decide) (by decide) (by decide) ?_
  refine x_iconst C.1 (n := 0) dX12_keep_45 ?_
  refine x_iadd C.1 (v := 0) (by decide) dX12_keep_46 ?_
  refine x_istore_n C.1 (lv' := [(1, vI 0), (2, vI 1), (0, .ref (ad 0))]) dX12_keep_47 (by decide) rfl ?_
  refine x_iinc C.1 (v := 2) (lv' := [(2, vI 2), (1, vI 0), (0, .ref (ad 0))]) (by decide) dX12_keep_48 1 rfl (by decide) rfl ?_
  refine x_goto C.1 (tgt := 20) dX12_keep_51 (by decide) ?_
  refine x_iload_n C.1 dX12_keep_20 0 rfl ?_
  refine x_iconst C.1 (n := 4) dX12_keep_21 ?_
  refine x_icmp_ge_f C.1 (tgt := 54) dX12_keep_22 (by decide) (by decide) (by decide) (by decide) ?_
  refine x_iload_n C.1 dX12_keep_25 1 rfl ?_
  refine x_aload_n C.1 dX12_keep_26 2 rfl ?_
  refine x_iload_n C.1 dX12_keep_27 0 rfl ?_
  refine x_callVi C (As := [vI 2]) (rest := [vI 0]) 0 (xw_at (N := 33) (i := 0) (by decide) rfl) vc_X12 (g_isPlant l D cy ad (cpN (up2 V 0 53 1) 1 3 81) J Rr (cpN_VR (VR_up hV (by decide))) hJ 2 (by decide) (by rw [cpN_n (by decide), up2_c _ _ (by decide)]; exact h76) (by rw [cpN_n (by decide), up2_c _ _ (by decide)]; exact h78) (by rw [cpN_n (by decide), up2_n _ _ (Or.inr (by decide))]; exact htp)) (l1 := []) (l2 := []) (List.append_nil _).symm (w2 := fun _ => MW cy ad (cpN (up2 V 0 53 1) 1 3 81) J Rr) (fun _ => List.append_nil _) rfl wm_yX12_isPlant wn_X12 wl_X12_122 wi_yX12_isPlant we_yX12_isPlant hd_yX12_isPlant rfl ⟨Nat.le_of_ble_eq_true rfl, Nat.le_of_ble_eq_true rfl⟩ (Nat.le_of_ble_eq_true rfl) ⟨Nat.le_of_ble_eq_true rfl, Nat.le_of_ble_eq_true rfl⟩ dX12_keep_28 (fun r4 u4 hr4 h4 => ?_)
  obtain rfl := h4
  refine x_if_eq_t C.1 (tgt := 45) dX12_keep_31 (by decide) (by decide) (by decide) ?_
  refine x_iconst C.1 (n := 0) dX12_keep_45 ?_
  refine x_iadd C.1 (v := 0) (by decide) dX12_keep_46 ?_
  refine x_istore_n C.1 (lv' := [(1, vI 0), (2, vI 2), (0, .ref (ad 0))]) dX12_keep_47 (by decide) rfl ?_
  refine x_iinc C.1 (v := 3) (lv' := [(2, vI 3), (1, vI 0), (0, .ref (ad 0))]) (by decide) dX12_keep_48 1 rfl (by decide) rfl ?_
  refine x_goto C.1 (tgt := 20) dX12_keep_51 (by decide) ?_
  refine x_iload_n C.1 dX12_keep_20 0 rfl ?_
  refine x_iconst C.1 (n := 4) dX12_keep_21 ?_
  refine x_icmp_ge_f C.1 (tgt := 54) dX12_keep_22 (by decide) (by decide) (by decide) (by decide) ?_
  refine x_iload_n C.1 dX12_keep_25 1 rfl ?_
  refine x_aload_n C.1 dX12_keep_26 2 rfl ?_
  refine x_iload_n C.1 dX12_keep_27 0 rfl ?_
  refine x_callVi C (As := [vI 3]) (rest := [vI 0]) 0 (xw_at (N := 33) (i := 0) (by decide) rfl) vc_X12 (g_isPlant l D cy ad (cpN (up2 V 0 53 1) 1 3 81) J Rr (cpN_VR (VR_up hV (by decide))) hJ 3 (by decide) (by rw [cpN_n (by decide), up2_c _ _ (by decide)]; exact h76) (by rw [cpN_n (by decide), up2_c _ _ (by decide)]; exact h78) (by rw [cpN_n (by decide), up2_n _ _ (Or.inr (by decide))]; exact htp)) (l1 := []) (l2 := []) (List.append_nil _).symm (w2 := fun _ => MW cy ad (cpN (up2 V 0 53 1) 1 3 81) J Rr) (fun _ => List.append_nil _) rfl wm_yX12_isPlant wn_X12 wl_X12_122 wi_yX12_isPlant we_yX12_isPlant hd_yX12_isPlant rfl ⟨Nat.le_of_ble_eq_true rfl, Nat.le_of_ble_eq_true rfl⟩ (Nat.le_of_ble_eq_true rfl) ⟨Nat.le_of_ble_eq_true rfl, Nat.le_of_ble_eq_true rfl⟩ dX12_keep_28 (fun r5 u5 hr5 h5 => ?_)
  obtain rfl := h5
  refine x_if_eq_t C.1 (tgt := 45) dX12_keep_31 (by decide) (by decide) (by decide) ?_
  refine x_iconst C.1 (n := 0) dX12_keep_45 ?_
  refine x_iadd C.1 (v := 0) (by decide) dX12_keep_46 ?_
  refine x_istore_n C.1 (lv' := [(1, vI 0), (2, vI 3), (0, .ref (ad 0))]) dX12_keep_47 (by decide) rfl ?_
  refine x_iinc C.1 (v := 4) (lv' := [(2, vI 4), (1, vI 0), (0, .ref (ad 0))]) (by decide) dX12_keep_48 1 rfl (by decide) rfl ?_
  refine x_goto C.1 (tgt := 20) dX12_keep_51 (by decide) ?_
  refine x_iload_n C.1 dX12_keep_20 0 rfl ?_
  refine x_iconst C.1 (n := 4) dX12_keep_21 ?_
  refine x_icmp_ge_t C.1 (tgt := 54) dX12_keep_22 (by decide) (by decide) (by decide) (by decide) ?_
  refine x_iload_n C.1 dX12_keep_54 1 rfl ?_
  exact x_iret (S := xS) (post := fun r _ => r = 0) (w1 := fun u : xS => MW cy ad u.1 u.2.1 u.2.2) (a := 0) C hr rfl dX12_keep_55 (by decide) ((cpN (up2 V 0 53 1) 1 3 81), J, Rr) rfl (by omega)
