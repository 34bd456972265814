set_option maxHeartbeats 8000000 in
set_option maxRecDepth 100000 in
theorem law_case_16 {p : Program} {e : Env} {s : State} {m : MethodId} {below : List Frame} {meth : Method} {c : Code} (l : Launch) (D : va_G) (cy : Nat → ClassId) {b L : Nat} {xs : Nat → Int32} (aK aV : Nat → Nat) (C : xC2 p s m #[Value.ref b] meth c D (fun q => s.heap.size ≤ q) s.heap 4 code RL (xTY cy)) (hE : zE aK aV (fun q => s.heap.size ≤ q) s s.heap) (hr : meth.sig.returnType = ret) (hX : va_X b L xs s s.heap) (hbl : b < s.heap.size) (hbA : ¬ (fun q : Nat => s.heap.size ≤ q) b) (hL : L ≤ 3072) (ux um : Nat → Nat) (i : Int) (hi : 0 ≤ i ∧ i + 6 ≤ L) (Vx Jx : Nat → Nat → Int) (Rx : Nat → Nat → Nat) (Vm Jm : Nat → Nat → Int) (Rm : Nat → Nat → Nat) (hLI : LI Vx Jx Rx Vm Jm Rm) (kk : ∀ (Vx Jx : Nat → Nat → Int) (Rx : Nat → Nat → Nat) (Vm Jm : Nat → Nat → Int) (Rm : Nat → Nat → Nat), LI Vx Jx Rx Vm Jm Rm → xW p l e room_1 s m #[Value.ref b] below meth c D (fun q => s.heap.size ≤ q) s.heap 4 162 8366 (lw_Z below #[Value.ref b] s) (XW cy ux Vx Jx Rx ++ MW cy um Vm Jm Rm) 1495 [(3, vI i), (2, .ref (um 0)), (1, .ref (ux 0)), (0, .ref b)] []) : xW p l e room_1 s m #[Value.ref b] below meth c D (fun q => s.heap.size ≤ q) s.heap 4 162 8366 (lw_Z below #[Value.ref b] s) (XW cy ux Vx Jx Rx ++ MW cy um Vm Jm Rm) 864 [(3, vI i), (2, .ref (um 0)), (1, .ref (ux 0)), (0, .ref b)] [] := by
  obtain ⟨hVx, hJx, hRx, hVm, hJm, hWm, hKk⟩ := hLI
  refine x_aload_n C.1 dL_law_864 2 rfl ?_
  refine x_aload_n C.1 dL_law_865 3 rfl ?_
  refine x_iload_n C.1 dL_law_866 0 rfl ?_
  refine x_iconst C.1 (n := 1) dL_law_867 ?_
  refine x_iadd C.1 (v := i + 1) (by omega) dL_law_868 ?_
  refine x_sld C (b := b) (i := i + 1) hX hbl hbA (by omega) (by omega) dL_law_869 ?_
  refine x_aload_n C.1 dL_law_870 3 rfl ?_
  refine x_iload_n C.1 dL_law_871 0 rfl ?_
  refine x_iconst C.1 (n := 2) dL_law_872 ?_
  refine x_iadd C.1 (v := i + 2) (by omega) dL_law_873 ?_
  refine x_sld C (b := b) (i := i + 2) hX hbl hbA (by omega) (by omega) dL_law_874 ?_
  refine x_aload_n C.1 dL_law_875 3 rfl ?_
  refine x_iload_n C.1 dL_law_876 0 rfl ?_
  refine x_iconst C.1 (n := 3) dL_law_877 ?_
  refine x_iadd C.1 (v := i + 3) (by omega) dL_law_878 ?_
  refine x_sld C (b := b) (i := i + 3) hX hbl hbA (by omega) (by omega) dL_law_879 ?_
  refine x_aload_n C.1 dL_law_880 3 rfl ?_
  refine x_iload_n C.1 dL_law_881 0 rfl ?_
  refine x_iconst C.1 (n := 4) dL_law_882 ?_
  refine x_iadd C.1 (v := i + 4) (by omega) dL_law_883 ?_
  refine x_sld C (b := b) (i := i + 4) hX hbl hbA (by omega) (by omega) dL_law_884 ?_
  refine x_aload_n C.1 dL_law_885 3 rfl ?_
  refine x_iload_n C.1 dL_law_886 0 rfl ?_
  refine x_iconst C.1 (n := 5) dL_law_887 ?_
  refine x_iadd C.1 (v := i + 5) (by omega) dL_law_888 ?_
  refine x_sld C (b := b) (i := i + 5) hX hbl hbA (by omega) (by omega) dL_law_889 ?_
  refine x_callVl C (As := [vI ((xs (i + 1).toNat).toInt), vI ((xs (i + 2).toNat).toInt), vI ((xs (i + 3).toNat).toInt), vI ((xs (i + 4).toNat).toInt), vI ((xs (i + 5).toNat).toInt)]) (rest := []) 0 law_x vc_X11 (s_ruleFor l D cy ux Vx Vx Jx Rx hVx hJx hRx ((xs (i + 1).toNat).toInt) (xi_r _) ((xs (i + 2).toNat).toInt) (xi_r _) ((xs (i + 3).toNat).toInt) (xi_r _) ((xs (i + 4).toNat).toInt) (xi_r _) ((xs (i + 5).toNat).toInt) (xi_r _)) (l1 := []) (l2 := MW cy um Vm Jm Rm) rfl (w2 := fun u40 : xS => XW cy ux u40.1 u40.2.1 u40.2.2 ++ MW cy um Vm Jm Rm) (fun _ => rfl) rfl wm_yX11_ruleFor wn_X11 wl_L_85 wi_yX11_ruleFor we_yX11_ruleFor hd_yX11_ruleFor rfl ⟨Nat.le_of_ble_eq_true rfl, Nat.le_of_ble_eq_true rfl⟩ (Nat.le_of_ble_eq_true rfl) ⟨Nat.le_of_ble_eq_true rfl, Nat.le_of_ble_eq_true rfl⟩ dL_law_890 (fun r40 u40 hr40 h40 => ?_)
  obtain ⟨hS40, hBq40⟩ := h40
  obtain ⟨V40, J40, R40⟩ := u40
  obtain ⟨hI40, hJ40, hR40⟩ := hS40
  dsimp only at hI40 hJ40 hR40 ⊢
  have hQ40 : XI V40 V40 := XI.toU hI40
  have hKq40 : V40 0 3 = Vx 0 3 := hBq40 0 3 (fun h => by omega)
  refine x_pop2 C.1 dL_law_893 rfl ?_
  refine x_aload_n C.1 dL_law_894 1 rfl ?_
  refine x_aload_n C.1 dL_law_895 3 rfl ?_
  refine x_iload_n C.1 dL_law_896 0 rfl ?_
  refine x_iconst C.1 (n := 1) dL_law_897 ?_
  refine x_iadd C.1 (v := i + 1) (by omega) dL_law_898 ?_
  refine x_sld C (b := b) (i := i + 1) hX hbl hbA (by omega) (by omega) dL_law_899 ?_
  refine x_aload_n C.1 dL_law_900 3 rfl ?_
  refine x_iload_n C.1 dL_law_901 0 rfl ?_
  refine x_iconst C.1 (n := 2) dL_law_902 ?_
  refine x_iadd C.1 (v := i + 2) (by omega) dL_law_903 ?_
  refine x_sld C (b := b) (i := i + 2) hX hbl hbA (by omega) (by omega) dL_law_904 ?_
  refine x_aload_n C.1 dL_law_905 3 rfl ?_
  refine x_iload_n C.1 dL_law_906 0 rfl ?_
  refine x_iconst C.1 (n := 3) dL_law_907 ?_
  refine x_iadd C.1 (v := i + 3) (by omega) dL_law_908 ?_
  refine x_sld C (b := b) (i := i + 3) hX hbl hbA (by omega) (by omega) dL_law_909 ?_
  refine x_aload_n C.1 dL_law_910 3 rfl ?_
  refine x_iload_n C.1 dL_law_911 0 rfl ?_
  refine x_iconst C.1 (n := 4) dL_law_912 ?_
  refine x_iadd C.1 (v := i + 4) (by omega) dL_law_913 ?_
  refine x_sld C (b := b) (i := i + 4) hX hbl hbA (by omega) (by omega) dL_law_914 ?_
  refine x_aload_n C.1 dL_law_915 3 rfl ?_
  refine x_iload_n C.1 dL_law_916 0 rfl ?_
  refine x_iconst C.1 (n := 5) dL_law_917 ?_
  refine x_iadd C.1 (v := i + 5) (by omega) dL_law_918 ?_
  refine x_sld C (b := b) (i := i + 5) hX hbl hbA (by omega) (by omega) dL_law_919 ?_
  refine x_callVl C (As := [vI ((xs (i + 1).toNat).toInt), vI ((xs (i + 2).toNat).toInt), vI ((xs (i + 3).toNat).toInt), vI ((xs (i + 4).toNat).toInt), vI ((xs (i + 5).toNat).toInt)]) (rest := []) 129 law_m vc_X12 (m_ruleFor l D cy um Vm Vm Jm Rm hVm hJm trivial ((xs (i + 1).toNat).toInt) (xi_r _) ((xs (i + 2).toNat).toInt) (xi_r _) ((xs (i + 3).toNat).toInt) (xi_r _) ((xs (i + 4).toNat).toInt) (xi_r _) ((xs (i + 5).toNat).toInt) (xi_r _) hWm) (l1 := XW cy ux V40 J40 R40) (l2 := []) (List.append_nil _).symm (w2 := fun u41 : xS => XW cy ux V40 J40 R40 ++ MW cy um u41.1 u41.2.1 u41.2.2) (fun _ => List.append_nil _) rfl wm_yX12_ruleFor wn_X12 wl_L_89 wi_yX12_ruleFor we_yX12_ruleFor hd_yX12_ruleFor rfl ⟨Nat.le_of_ble_eq_true rfl, Nat.le_of_ble_eq_true rfl⟩ (Nat.le_of_ble_eq_true rfl) ⟨Nat.le_of_ble_eq_true rfl, Nat.le_of_ble_eq_true rfl⟩ dL_law_920 (fun r41 u41 hr41 h41 => ?_)
  obtain ⟨hS41, hBq41⟩ := h41
  obtain ⟨V41, J41, R41⟩ := u41
  obtain ⟨hI41, hJ41, hR41⟩ := hS41
  dsimp only at hI41 hJ41 hR41 ⊢
  have hQ41 : MI V41 V41 := MI.sf hI41
  have hW41 : WP V41 := WP.of hI41 hWm
  have hKq41 : V41 0 53 = Vm 0 53 := hBq41 0 53 rfl
  refine x_pop2 C.1 dL_law_923 rfl ?_
  refine x_goto C.1 (tgt := 1495) dL_law_924 (by decide) ?_
  exact kk V40 J40 R40 V41 J41 R41 ⟨hQ40, hJ40, hR40, hQ41, hJ41, hW41, (by omega)⟩
set_option maxHeartbeats 8000000 in
set_option maxRecDepth 100000 in
theorem law_case_17 {p : Program} {e : Env} {s : State} {m : MethodId} {below : List Frame} {meth : Method} {c : Code} (l : Launch) (D : va_G) (cy : Nat → ClassId) {b L : Nat} {xs : Nat → Int32} (aK aV : Nat → Nat) (C : xC2 p s m #[Value.ref b] meth c D (fun q => s.heap.size ≤ q) s.heap 4 code RL (xTY cy)) (hE : zE aK aV (fun q => s.heap.size ≤ q) s s.heap) (hr : meth.sig.returnType = ret) (hX : va_X b L xs s s.heap) (hbl : b < s.heap.size) (hbA : ¬ (fun q : Nat => s.heap.size ≤ q) b) (hL : L ≤ 3072) (ux um : Nat → Nat) (i : Int) (hi : 0 ≤ i ∧ i + 6 ≤ L) (Vx Jx : Nat → Nat → Int) (Rx : Nat → Nat → Nat) (Vm Jm : Nat → Nat → Int) (Rm : Nat → Nat → Nat) (hLI : LI Vx Jx Rx Vm Jm Rm) (kk : ∀ (Vx Jx : Nat → Nat → Int) (Rx : Nat → Nat → Nat) (Vm Jm : Nat → Nat → Int) (Rm : Nat → Nat → Nat), LI Vx Jx Rx Vm Jm Rm → xW p l e room_1 s m #[Value.ref b] below meth c D (fun q => s.heap.size ≤ q) s.heap 4 162 8366 (lw_Z below #[Value.ref b] s) (XW cy ux Vx Jx Rx ++ MW cy um Vm Jm Rm) 1495 [(3, vI i), (2, .ref (um 0)), (1, .ref (ux 0)), (0, .ref b)] []) : xW p l e room_1 s m #[Value.ref b] below meth c D (fun q => s.heap.size ≤ q) s.heap 4 162 8366 (lw_Z below #[Value.ref b] s) (XW cy ux Vx Jx Rx ++ MW cy um Vm Jm Rm) 927 [(3, vI i), (2, .ref (um 0)), (1, .ref (ux 0)), (0, .ref b)] [] := by
  obtain ⟨hVx, hJx, hRx, hVm, hJm, hWm, hKk⟩ := hLI
  refine x_aload_n C.1 dL_law_927 2 rfl ?_
  refine x_aload_n C.1 dL_law_928 3 rfl ?_
  refine x_iload_n C.1 dL_law_929 0 rfl ?_
  refine x_iconst C.1 (n := 1) dL_law_930 ?_
  refine x_iadd C.1 (v := i + 1) (by omega) dL_law_931 ?_
  refine x_sld C (b := b) (i := i + 1) hX hbl hbA (by omega) (by omega) dL_law_932 ?_
  refine x_aload_n C.1 dL_law_933 3 rfl ?_
  refine x_iload_n C.1 dL_law_934 0 rfl ?_
  refine x_iconst C.1 (n := 2) dL_law_935 ?_
  refine x_iadd C.1 (v := i + 2) (by omega) dL_law_936 ?_
  refine x_sld C (b := b) (i := i + 2) hX hbl hbA (by omega) (by omega) dL_law_937 ?_
  refine x_callVi C (As := [vI ((xs (i + 1).toNat).toInt), vI ((xs (i + 2).toNat).toInt)]) (rest := []) 0 law_x vc_X11 (s_lasts l D cy ux Vx Vx Jx Rx hVx hJx hRx ((xs (i + 1).toNat).toInt) (xi_r _) ((xs (i + 2).toNat).toInt) (xi_r _)) (l1 := []) (l2 := MW cy um Vm Jm Rm) rfl (w2 := fun u42 : Nat → Nat → Int => XW cy ux u42 Jx Rx ++ MW cy um Vm Jm Rm) (fun _ => rfl) rfl wm_yX11_lasts wn_X11 wl_L_90 wi_yX11_lasts we_yX11_lasts hd_yX11_lasts rfl ⟨Nat.le_of_ble_eq_true rfl, Nat.le_of_ble_eq_true rfl⟩ (Nat.le_of_ble_eq_true rfl) ⟨Nat.le_of_ble_eq_true rfl, Nat.le_of_ble_eq_true rfl⟩ dL_law_938 (fun r42 u42 hr42 h42 => ?_)
  obtain ⟨hS42, hBq42⟩ := h42
  have hQ42 : XI u42 u42 := XI.toU hS42
  have hKq42 : u42 0 3 = Vx 0 3 := hBq42 0 3 (fun h => by omega)
  refine x_pop C.1 dL_law_941 rfl ?_
  refine x_aload_n C.1 dL_law_942 1 rfl ?_
  refine x_aload_n C.1 dL_law_943 3 rfl ?_
  refine x_iload_n C.1 dL_law_944 0 rfl ?_
  refine x_iconst C.1 (n := 1) dL_law_945 ?_
  refine x_iadd C.1 (v := i + 1) (by omega) dL_law_946 ?_
  refine x_sld C (b := b) (i := i + 1) hX hbl hbA (by omega) (by omega) dL_law_947 ?_
  refine x_aload_n C.1 dL_law_948 3 rfl ?_
  refine x_iload_n C.1 dL_law_949 0 rfl ?_
  refine x_iconst C.1 (n := 2) dL_law_950 ?_
  refine x_iadd C.1 (v := i + 2) (by omega) dL_law_951 ?_
  refine x_sld C (b := b) (i := i + 2) hX hbl hbA (by omega) (by omega) dL_law_952 ?_
  refine x_callVi C (As := [vI ((xs (i + 1).toNat).toInt), vI ((xs (i + 2).toNat).toInt)]) (rest := []) 129 law_m vc_X12 (m_lasts l D cy um Vm Vm Jm Rm hVm hJm trivial ((xs (i + 1).toNat).toInt) (xi_r _) ((xs (i + 2).toNat).toInt) (xi_r _) hWm) (l1 := XW cy ux u42 Jx Rx) (l2 := []) (List.append_nil _).symm (w2 := fun u43 : Nat → Nat → Int => XW cy ux u42 Jx Rx ++ MW cy um u43 Jm Rm) (fun _ => List.append_nil _) rfl wm_yX12_lasts wn_X12 wl_L_93 wi_yX12_lasts we_yX12_lasts hd_yX12_lasts rfl ⟨Nat.le_of_ble_eq_true rfl, Nat.le_of_ble_eq_true rfl⟩ (Nat.le_of_ble_eq_true rfl) ⟨Nat.le_of_ble_eq_true rfl, Nat.le_of_ble_eq_true rfl⟩ dL_law_953 (fun r43 u43 hr43 h43 => ?_)
  obtain ⟨hS43, hBq43⟩ := h43
  have hQ43 : MI u43 u43 := MI.sf hS43
  have hW43 : WP u43 := WP.of hS43 hWm
  have hKq43 : u43 0 53 = Vm 0 53 := hBq43 0 53 rfl
  refine x_pop C.1 dL_law_956 rfl ?_
  refine x_goto C.1 (tgt := 1495) dL_law_957 (by decide) ?_
  exact kk u42 Jx Rx u43 Jm Rm ⟨hQ42, hJx, hRx, hQ43, hJm, hW43, (by omega)⟩
set_option maxHeartbeats 8000000 in
set_option maxRecDepth 100000 in
theorem law_case_18 {p : Program} {e : Env} {s : State} {m : MethodId} {below : List Frame} {meth : Method} {c : Code} (l : Launch) (D : va_G) (cy : Nat → ClassId) {b L : Nat} {xs : Nat → Int32} (aK aV : Nat → Nat) (C : xC2 p s m #[Value.ref b] meth c D (fun q => s.heap.size ≤ q) s.heap 4 code RL (xTY cy)) (hE : zE aK aV (fun q => s.heap.size ≤ q) s s.heap) (hr : meth.sig.returnType = ret) (hX : va_X b L xs s s.heap) (hbl : b < s.heap.size) (hbA : ¬ (fun q : Nat => s.heap.size ≤ q) b) (hL : L ≤ 3072) (ux um : Nat → Nat) (i : Int) (hi : 0 ≤ i ∧ i + 6 ≤ L) (Vx Jx : Nat → Nat → Int) (Rx : Nat → Nat → Nat) (Vm Jm : Nat → Nat → Int) (Rm : Nat → Nat → Nat) (hLI : LI Vx Jx Rx Vm Jm Rm) (kk : ∀ (Vx Jx : Nat → Nat → Int) (Rx : Nat → Nat → Nat) (Vm Jm : Nat → Nat → Int) (Rm : Nat → Nat → Nat), LI Vx Jx Rx Vm Jm Rm → xW p l e room_1 s m #[Value.ref b] below meth c D (fun q => s.heap.size ≤ q) s.heap 4 162 8366 (lw_Z below #[Value.ref b] s) (XW cy ux Vx Jx Rx ++ MW cy um Vm Jm Rm) 1495 [(3, vI i), (2, .ref (um 0)), (1, .ref (ux 0)), (0, .ref b)] []) : xW p l e room_1 s m #[Value.ref b] below meth c D (fun q => s.heap.size ≤ q) s.heap 4 162 8366 (lw_Z below #[Value.ref b] s) (XW cy ux Vx Jx Rx ++ MW cy um Vm Jm Rm) 960 [(3, vI i), (2, .ref (um 0)), (1, .ref (ux 0)), (0, .ref b)] [] := by
  obtain ⟨hVx, hJx, hRx, hVm, hJm, hWm, hKk⟩ := hLI
  refine x_aload_n C.1 dL_law_960 2 rfl ?_
  refine x_aload_n C.1 dL_law_961 3 rfl ?_
  refine x_iload_n C.1 dL_law_962 0 rfl ?_
  refine x_iconst C.1 (n := 1) dL_law_963 ?_
  refine x_iadd C.1 (v := i + 1) (by omega) dL_law_964 ?_
  refine x_sld C (b := b) (i := i + 1) hX hbl hbA (by omega) (by omega) dL_law_965 ?_
  refine x_aload_n C.1 dL_law_966 3 rfl ?_
  refine x_iload_n C.1 dL_law_967 0 rfl ?_
  refine x_iconst C.1 (n := 2) dL_law_968 ?_
  refine x_iadd C.1 (v := i + 2) (by omega) dL_law_969 ?_
  refine x_sld C (b := b) (i := i + 2) hX hbl hbA (by omega) (by omega) dL_law_970 ?_
  refine x_callVi C (As := [vI ((xs (i + 1).toNat).toInt), vI ((xs (i + 2).toNat).toInt)]) (rest := []) 0 law_x vc_X11 (s_needs l D cy ux Vx Vx Jx Rx hVx hJx hRx ((xs (i + 1).toNat).toInt) (xi_r _) ((xs (i + 2).toNat).toInt) (xi_r _)) (l1 := []) (l2 := MW cy um Vm Jm Rm) rfl (w2 := fun u44 : Nat → Nat → Int => XW cy ux u44 Jx Rx ++ MW cy um Vm Jm Rm) (fun _ => rfl) rfl wm_yX11_needs wn_X11 wl_L_94 wi_yX11_needs we_yX11_needs hd_yX11_needs rfl ⟨Nat.le_of_ble_eq_true rfl, Nat.le_of_ble_eq_true rfl⟩ (Nat.le_of_ble_eq_true rfl) ⟨Nat.le_of_ble_eq_true rfl, Nat.le_of_ble_eq_true rfl⟩ dL_law_971 (fun r44 u44 hr44 h44 => ?_)
  obtain ⟨hS44, hBq44⟩ := h44
  have hQ44 : XI u44 u44 := XI.toU hS44
  have hKq44 : u44 0 3 = Vx 0 3 := hBq44 0 3 (fun h => by omega)
  refine x_pop C.1 dL_law_974 rfl ?_
  refine x_aload_n C.1 dL_law_975 1 rfl ?_
  refine x_aload_n C.1 dL_law_976 3 rfl ?_
  refine x_iload_n C.1 dL_law_977 0 rfl ?_
  refine x_iconst C.1 (n := 1) dL_law_978 ?_
  refine x_iadd C.1 (v := i + 1) (by omega) dL_law_979 ?_
  refine x_sld C (b := b) (i := i + 1) hX hbl hbA (by omega) (by omega) dL_law_980 ?_
  refine x_aload_n C.1 dL_law_981 3 rfl ?_
  refine x_iload_n C.1 dL_law_982 0 rfl ?_
  refine x_iconst C.1 (n := 2) dL_law_983 ?_
  refine x_iadd C.1 (v := i + 2) (by omega) dL_law_984 ?_
  refine x_sld C (b := b) (i := i + 2) hX hbl hbA (by omega) (by omega) dL_law_985 ?_
  refine x_callVi C (As := [vI ((xs (i + 1).toNat).toInt), vI ((xs (i + 2).toNat).toInt)]) (rest := []) 129 law_m vc_X12 (m_needs l D cy um Vm Vm Jm Rm hVm hJm trivial ((xs (i + 1).toNat).toInt) (xi_r _) ((xs (i + 2).toNat).toInt) (xi_r _) hWm) (l1 := XW cy ux u44 Jx Rx) (l2 := []) (List.append_nil _).symm (w2 := fun u45 : Nat → Nat → Int => XW cy ux u44 Jx Rx ++ MW cy um u45 Jm Rm) (fun _ => List.append_nil _) rfl wm_yX12_needs wn_X12 wl_L_97 wi_yX12_needs we_yX12_needs hd_yX12_needs rfl ⟨Nat.le_of_ble_eq_true rfl, Nat.le_of_ble_eq_true rfl⟩ (Nat.le_of_ble_eq_true rfl) ⟨Nat.le_of_ble_eq_true rfl, Nat.le_of_ble_eq_true rfl⟩ dL_law_986 (fun r45 u45 hr45 h45 => ?_)
  obtain ⟨hS45, hBq45⟩ := h45
  have hQ45 : MI u45 u45 := MI.sf hS45
  have hW45 : WP u45 := WP.of hS45 hWm
  have hKq45 : u45 0 53 = Vm 0 53 := hBq45 0 53 rfl
  refine x_pop C.1 dL_law_989 rfl ?_
  refine x_goto C.1 (tgt := 1495) dL_law_990 (by decide) ?_
  exact kk u44 Jx Rx u45 Jm Rm ⟨hQ44, hJx, hRx, hQ45, hJm, hW45, (by omega)⟩
set_option maxHeartbeats 8000000 in
set_option maxRecDepth 100000 in
theorem law_case_19 {p : Program} {e : Env} {s : State} {m : MethodId} {below : List Frame} {meth : Method} {c : Code} (l : Launch) (D : va_G) (cy : Nat → ClassId) {b L : Nat} {xs : Nat → Int32} (aK aV : Nat → Nat) (C : xC2 p s m #[Value.ref b] meth c D (fun q => s.heap.size ≤ q) s.heap 4 code RL (xTY cy)) (hE : zE aK aV (fun q => s.heap.size ≤ q) s s.heap) (hr : meth.sig.returnType = ret) (hX : va_X b L xs s s.heap) (hbl : b < s.heap.size) (hbA : ¬ (fun q : Nat => s.heap.size ≤ q) b) (hL : L ≤ 3072) (ux um : Nat → Nat) (i : Int) (hi : 0 ≤ i ∧ i + 6 ≤ L) (Vx Jx : Nat → Nat → Int) (Rx : Nat → Nat → Nat) (Vm Jm : Nat → Nat → Int) (Rm : Nat → Nat → Nat) (hLI : LI Vx Jx Rx Vm Jm Rm) (kk : ∀ (Vx Jx : Nat → Nat → Int) (Rx : Nat → Nat → Nat) (Vm Jm : Nat → Nat → Int) (Rm : Nat → Nat → Nat), LI Vx Jx Rx Vm Jm Rm → xW p l e room_1 s m #[Value.ref b] below meth c D (fun q => s.heap.size ≤ q) s.heap 4 162 8366 (lw_Z below #[Value.ref b] s) (XW cy ux Vx Jx Rx ++ MW cy um Vm Jm Rm) 1495 [(3, vI i), (2, .ref (um 0)), (1, .ref (ux 0)), (0, .ref b)] []) : xW p l e room_1 s m #[Value.ref b] below meth c D (fun q => s.heap.size ≤ q) s.heap 4 162 8366 (lw_Z below #[Value.ref b] s) (XW cy ux Vx Jx Rx ++ MW cy um Vm Jm Rm) 993 [(3, vI i), (2, .ref (um 0)), (1, .ref (ux 0)), (0, .ref b)] [] := by
  obtain ⟨hVx, hJx, hRx, hVm, hJm, hWm, hKk⟩ := hLI
  refine x_aload_n C.1 dL_law_993 2 rfl ?_
  refine x_aload_n C.1 dL_law_994 3 rfl ?_
  refine x_iload_n C.1 dL_law_995 0 rfl ?_
  refine x_iconst C.1 (n := 1) dL_law_996 ?_
  refine x_iadd C.1 (v := i + 1) (by omega) dL_law_997 ?_
  refine x_sld C (b := b) (i := i + 1) hX hbl hbA (by omega) (by omega) dL_law_998 ?_
  refine x_aload_n C.1 dL_law_999 3 rfl ?_
  refine x_iload_n C.1 dL_law_1000 0 rfl ?_
  refine x_iconst C.1 (n := 2) dL_law_1001 ?_
  refine x_iadd C.1 (v := i + 2) (by omega) dL_law_1002 ?_
  refine x_sld C (b := b) (i := i + 2) hX hbl hbA (by omega) (by omega) dL_law_1003 ?_
  refine x_aload_n C.1 dL_law_1004 3 rfl ?_
  refine x_iload_n C.1 dL_law_1005 0 rfl ?_
  refine x_iconst C.1 (n := 3) dL_law_1006 ?_
  refine x_iadd C.1 (v := i + 3) (by omega) dL_law_1007 ?_
  refine x_sld C (b := b) (i := i + 3) hX hbl hbA (by omega) (by omega) dL_law_1008 ?_
  refine x_callVi C (As := [vI ((xs (i + 1).toNat).toInt), vI ((xs (i + 2).toNat).toInt), vI ((xs (i + 3).toNat).toInt)]) (rest := []) 0 law_x vc_X11 (s_week l D cy ux Vx Vx Jx Rx hVx hJx hRx ((xs (i + 1).toNat).toInt) (xi_r _) ((xs (i + 2).toNat).toInt) (xi_r _) ((xs (i + 3).toNat).toInt) (xi_r _)) (l1 := []) (l2 := MW cy um Vm Jm Rm) rfl (w2 := fun u46 : Nat → Nat → Int => XW cy ux u46 Jx Rx ++ MW cy um Vm Jm Rm) (fun _ => rfl) rfl wm_yX11_week wn_X11 wl_L_98 wi_yX11_week we_yX11_week hd_yX11_week rfl ⟨Nat.le_of_ble_eq_true rfl, Nat.le_of_ble_eq_true rfl⟩ (Nat.le_of_ble_eq_true rfl) ⟨Nat.le_of_ble_eq_true rfl, Nat.le_of_ble_eq_true rfl⟩ dL_law_1009 (fun r46 u46 hr46 h46 => ?_)
  obtain ⟨hS46, hBq46⟩ := h46
  have hQ46 : XI u46 u46 := XI.toU hS46
  have hKq46 : u46 0 3 = Vx 0 3 := hBq46 0 3 (fun h => by omega)
  refine x_pop C.1 dL_law_1012 rfl ?_
  refine x_aload_n C.1 dL_law_1013 1 rfl ?_
  refine x_aload_n C.1 dL_law_1014 3 rfl ?_
  refine x_iload_n C.1 dL_law_1015 0 rfl ?_
  refine x_iconst C.1 (n := 1) dL_law_1016 ?_
  refine x_iadd C.1 (v := i + 1) (by omega) dL_law_1017 ?_
  refine x_sld C (b := b) (i := i + 1) hX hbl hbA (by omega) (by omega) dL_law_1018 ?_
  refine x_aload_n C.1 dL_law_1019 3 rfl ?_
  refine x_iload_n C.1 dL_law_1020 0 rfl ?_
  refine x_iconst C.1 (n := 2) dL_law_1021 ?_
  refine x_iadd C.1 (v := i + 2) (by omega) dL_law_1022 ?_
  refine x_sld C (b := b) (i := i + 2) hX hbl hbA (by omega) (by omega) dL_law_1023 ?_
  refine x_aload_n C.1 dL_law_1024 3 rfl ?_
  refine x_iload_n C.1 dL_law_1025 0 rfl ?_
  refine x_iconst C.1 (n := 3) dL_law_1026 ?_
  refine x_iadd C.1 (v := i + 3) (by omega) dL_law_1027 ?_
  refine x_sld C (b := b) (i := i + 3) hX hbl hbA (by omega) (by omega) dL_law_1028 ?_
  refine x_callVi C (As := [vI ((xs (i + 1).toNat).toInt), vI ((xs (i + 2).toNat).toInt), vI ((xs (i + 3).toNat).toInt)]) (rest := []) 129 law_m vc_X12 (m_week l D cy um Vm Vm Jm Rm hVm hJm trivial ((xs (i + 1).toNat).toInt) (xi_r _) ((xs (i + 2).toNat).toInt) (xi_r _) ((xs (i + 3).toNat).toInt) (xi_r _) hWm) (l1 := XW cy ux u46 Jx Rx) (l2 := []) (List.append_nil _).symm (w2 := fun u47 : Nat → Nat → Int => XW cy ux u46 Jx Rx ++ MW cy um u47 Jm Rm) (fun _ => List.append_nil _) rfl wm_yX12_week wn_X12 wl_L_102 wi_yX12_week we_yX12_week hd_yX12_week rfl ⟨Nat.le_of_ble_eq_true rfl, Nat.le_of_ble_eq_true rfl⟩ (Nat.le_of_ble_eq_true rfl) ⟨Nat.le_of_ble_eq_true rfl, Nat.le_of_ble_eq_true rfl⟩ dL_law_1029 (fun r47 u47 hr47 h47 => ?_)
  obtain ⟨hS47, hBq47⟩ := h47
  have hQ47 : MI u47 u47 := MI.sf hS47
  have hW47 : WP u47 := WP.of hS47 hWm
  have hKq47 : u47 0 53 = Vm 0 53 := hBq47 0 53 rfl
  refine x_pop C.1 dL_law_1032 rfl ?_
  refine x_goto C.1 (tgt := 1495) dL_law_1033 (by decide) ?_
  exact kk u46 Jx Rx u47 Jm Rm ⟨hQ46, hJx, hRx, hQ47, hJm, hW47, (by omega)⟩
set_option maxHeartbeats 8000000 in
set_option maxRecDepth 100000 in
theorem law_case_20 {p : Program} {e : Env} {s : State} {m : MethodId} {below : List Frame} {meth : Method} {c : Code} (l : Launch) (D : va_G) (cy : Nat → ClassId) {b L : Nat} {xs : Nat → Int32} (aK aV : Nat → Nat) (C : xC2 p s m #[Value.ref b] meth c D (fun q => s.heap.size ≤ q) s.heap 4 code RL (xTY cy)) (hE : zE aK aV (fun q => s.heap.size ≤ q) s s.heap) (hr : meth.sig.returnType = ret) (hX : va_X b L xs s s.heap) (hbl : b < s.heap.size) (hbA : ¬ (fun q : Nat => s.heap.size ≤ q) b) (hL : L ≤ 3072) (ux um : Nat → Nat) (i : Int) (hi : 0 ≤ i ∧ i + 6 ≤ L) (Vx Jx : Nat → Nat → Int) (Rx : Nat → Nat → Nat) (Vm Jm : Nat → Nat → Int) (Rm : Nat → Nat → Nat) (hLI : LI Vx Jx Rx Vm Jm Rm) (kk : ∀ (Vx Jx : Nat → Nat → Int) (Rx : Nat → Nat → Nat) (Vm Jm : Nat → Nat → Int) (Rm : Nat → Nat → Nat), LI Vx Jx Rx Vm Jm Rm → xW p l e room_1 s m #[Value.ref b] below meth c D (fun q => s.heap.size ≤ q) s.heap 4 162 8366 (lw_Z below #[Value.ref b] s) (XW cy ux Vx Jx Rx ++ MW cy um Vm Jm Rm) 1495 [(3, vI i), (2, .ref (um 0)), (1, .ref (ux 0)), (0, .ref b)] []) : xW p l e room_1 s m #[Value.ref b] below meth c D (fun q => s.heap.size ≤ q) s.heap 4 162 8366 (lw_Z below #[Value.ref b] s) (XW cy ux Vx Jx Rx ++ MW cy um Vm Jm Rm) 1036 [(3, vI i), (2, .ref (um 0)), (1, .ref (ux 0)), (0, .ref b)] [] := by
  obtain ⟨hVx, hJx, hRx, hVm, hJm, hWm, hKk⟩ := hLI
  refine x_aload_n C.1 dL_law_1036 2 rfl ?_
  refine x_aload_n C.1 dL_law_1037 3 rfl ?_
  refine x_iload_n C.1 dL_law_1038 0 rfl ?_
  refine x_iconst C.1 (n := 1) dL_law_1039 ?_
  refine x_iadd C.1 (v := i + 1) (by omega) dL_law_1040 ?_
  refine x_sld C (b := b) (i := i + 1) hX hbl hbA (by omega) (by omega) dL_law_1041 ?_
  refine x_aload_n C.1 dL_law_1042 3 rfl ?_
  refine x_iload_n C.1 dL_law_1043 0 rfl ?_
  refine x_iconst C.1 (n := 2) dL_law_1044 ?_
  refine x_iadd C.1 (v := i + 2) (by omega) dL_law_1045 ?_
  refine x_sld C (b := b) (i := i + 2) hX hbl hbA (by omega) (by omega) dL_law_1046 ?_
  refine x_aload_n C.1 dL_law_1047 3 rfl ?_
  refine x_iload_n C.1 dL_law_1048 0 rfl ?_
  refine x_iconst C.1 (n := 3) dL_law_1049 ?_
  refine x_iadd C.1 (v := i + 3) (by omega) dL_law_1050 ?_
  refine x_sld C (b := b) (i := i + 3) hX hbl hbA (by omega) (by omega) dL_law_1051 ?_
  refine x_aload_n C.1 dL_law_1052 3 rfl ?_
  refine x_iload_n C.1 dL_law_1053 0 rfl ?_
  refine x_iconst C.1 (n := 4) dL_law_1054 ?_
  refine x_iadd C.1 (v := i + 4) (by omega) dL_law_1055 ?_
  refine x_sld C (b := b) (i := i + 4) hX hbl hbA (by omega) (by omega) dL_law_1056 ?_
  refine x_callVl C (As := [vI ((xs (i + 1).toNat).toInt), vI ((xs (i + 2).toNat).toInt), vI ((xs (i + 3).toNat).toInt), vI ((xs (i + 4).toNat).toInt)]) (rest := []) 0 law_x vc_X11 (s_movesOut l D cy ux Vx Vx Jx Rx hVx hJx hRx ((xs (i + 1).toNat).toInt) (xi_r _) ((xs (i + 2).toNat).toInt) (xi_r _) ((xs (i + 3).toNat).toInt) (xi_r _) ((xs (i + 4).toNat).toInt) (xi_r _)) (l1 := []) (l2 := MW cy um Vm Jm Rm) rfl (w2 := fun u48 : xS => XW cy ux u48.1 u48.2.1 u48.2.2 ++ MW cy um Vm Jm Rm) (fun _ => rfl) rfl wm_yX11_movesOut wn_X11 wl_L_103 wi_yX11_movesOut we_yX11_movesOut hd_yX11_movesOut rfl ⟨Nat.le_of_ble_eq_true rfl, Nat.le_of_ble_eq_true rfl⟩ (Nat.le_of_ble_eq_true rfl) ⟨Nat.le_of_ble_eq_true rfl, Nat.le_of_ble_eq_true rfl⟩ dL_law_1057 (fun r48 u48 hr48 h48 => ?_)
  obtain ⟨hS48, hBq48⟩ := h48
  obtain ⟨V48, J48, R48⟩ := u48
  obtain ⟨hI48, hJ48, hR48⟩ := hS48
  dsimp only at hI48 hJ48 hR48 ⊢
  have hQ48 : XI V48 V48 := XI.toU hI48
  have hKq48 : V48 0 3 = Vx 0 3 := hBq48 0 3 (fun h => by omega)
  refine x_pop2 C.1 dL_law_1060 rfl ?_
  refine x_aload_n C.1 dL_law_1061 1 rfl ?_
  refine x_aload_n C.1 dL_law_1062 3 rfl ?_
  refine x_iload_n C.1 dL_law_1063 0 rfl ?_
  refine x_iconst C.1 (n := 1) dL_law_1064 ?_
  refine x_iadd C.1 (v := i + 1) (by omega) dL_law_1065 ?_
  refine x_sld C (b := b) (i := i + 1) hX hbl hbA (by omega) (by omega) dL_law_1066 ?_
  refine x_aload_n C.1 dL_law_1067 3 rfl ?_
  refine x_iload_n C.1 dL_law_1068 0 rfl ?_
  refine x_iconst C.1 (n := 2) dL_law_1069 ?_
  refine x_iadd C.1 (v := i + 2) (by omega) dL_law_1070 ?_
  refine x_sld C (b := b) (i := i + 2) hX hbl hbA (by omega) (by omega) dL_law_1071 ?_
  refine x_aload_n C.1 dL_law_1072 3 rfl ?_
  refine x_iload_n C.1 dL_law_1073 0 rfl ?_
  refine x_iconst C.1 (n := 3) dL_law_1074 ?_
  refine x_iadd C.1 (v := i + 3) (by omega) dL_law_1075 ?_
  refine x_sld C (b := b) (i := i + 3) hX hbl hbA (by omega) (by omega) dL_law_1076 ?_
  refine x_aload_n C.1 dL_law_1077 3 rfl ?_
  refine x_iload_n C.1 dL_law_1078 0 rfl ?_
  refine x_iconst C.1 (n := 4) dL_law_1079 ?_
  refine x_iadd C.1 (v := i + 4) (by omega) dL_law_1080 ?_
  refine x_sld C (b := b) (i := i + 4) hX hbl hbA (by omega) (by omega) dL_law_1081 ?_
  refine x_callVl C (As := [vI ((xs (i + 1).toNat).toInt), vI ((xs (i + 2).toNat).toInt), vI ((xs (i + 3).toNat).toInt), vI ((xs (i + 4).toNat).toInt)]) (rest := []) 129 law_m vc_X12 (m_movesOut l D cy um Vm Vm Jm Rm hVm hJm trivial ((xs (i + 1).toNat).toInt) (xi_r _) ((xs (i + 2).toNat).toInt) (xi_r _) ((xs (i + 3).toNat).toInt) (xi_r _) ((xs (i + 4).toNat).toInt) (xi_r _) hWm) (l1 := XW cy ux V48 J48 R48) (l2 := []) (List.append_nil _).symm (w2 := fun u49 : xS => XW cy ux V48 J48 R48 ++ MW cy um u49.1 u49.2.1 u49.2.2) (fun _ => List.append_nil _) rfl wm_yX12_movesOut wn_X12 wl_L_106 wi_yX12_movesOut we_yX12_movesOut hd_yX12_movesOut rfl ⟨Nat.le_of_ble_eq_true rfl, Nat.le_of_ble_eq_true rfl⟩ (Nat.le_of_ble_eq_true rfl) ⟨Nat.le_of_ble_eq_true rfl, Nat.le_of_ble_eq_true rfl⟩ dL_law_1082 (fun r49 u49 hr49 h49 => ?_)
  obtain ⟨hS49, hBq49⟩ := h49
  obtain ⟨V49, J49, R49⟩ := u49
  obtain ⟨hI49, hJ49, hR49⟩ := hS49
  dsimp only at hI49 hJ49 hR49 ⊢
  have hQ49 : MI V49 V49 := MI.sf hI49
  have hW49 : WP V49 := WP.of hI49 hWm
  have hKq49 : V49 0 53 = Vm 0 53 := hBq49 0 53 rfl
  refine x_pop2 C.1 dL_law_1085 rfl ?_
  refine x_goto C.1 (tgt := 1495) dL_law_1086 (by decide) ?_
  exact kk V48 J48 R48 V49 J49 R49 ⟨hQ48, hJ48, hR48, hQ49, hJ49, hW49, (by omega)⟩
set_option maxHeartbeats 8000000 in
set_option maxRecDepth 100000 in
theorem law_case_21 {p : Program} {e : Env} {s : State} {m : MethodId} {below : List Frame} {meth : Method} {c : Code} (l : Launch) (D : va_G) (cy : Nat → ClassId) {b L : Nat} {xs : Nat → Int32} (aK aV : Nat → Nat) (C : xC2 p s m #[Value.ref b] meth c D (fun q => s.heap.size ≤ q) s.heap 4 code RL (xTY cy)) (hE : zE aK aV (fun q => s.heap.size ≤ q) s s.heap) (hr : meth.sig.returnType = ret) (hX : va_X b L xs s s.heap) (hbl : b < s.heap.size) (hbA : ¬ (fun q : Nat => s.heap.size ≤ q) b) (hL : L ≤ 3072) (ux um : Nat → Nat) (i : Int) (hi : 0 ≤ i ∧ i + 6 ≤ L) (Vx Jx : Nat → Nat → Int) (Rx : Nat → Nat → Nat) (Vm Jm : Nat → Nat → Int) (Rm : Nat → Nat → Nat) (hLI : LI Vx Jx Rx Vm Jm Rm) (kk : ∀ (Vx Jx : Nat → Nat → Int) (Rx : Nat → Nat → Nat) (Vm Jm : Nat → Nat → Int) (Rm : Nat → Nat → Nat), LI Vx Jx Rx Vm Jm Rm → xW p l e room_1 s m #[Value.ref b] below meth c D (fun q => s.heap.size ≤ q) s.heap 4 162 8366 (lw_Z below #[Value.ref b] s) (XW cy ux Vx Jx Rx ++ MW cy um Vm Jm Rm) 1495 [(3, vI i), (2, .ref (um 0)), (1, .ref (ux 0)), (0, .ref b)] []) : xW p l e room_1 s m #[Value.ref b] below meth c D (fun q => s.heap.size ≤ q) s.heap 4 162 8366 (lw_Z below #[Value.ref b] s) (XW cy ux Vx Jx Rx ++ MW cy um Vm Jm Rm) 1089 [(3, vI i), (2, .ref (um 0)), (1, .ref (ux 0)), (0, .ref b)] [] := by
  obtain ⟨hVx, hJx, hRx, hVm, hJm, hWm, hKk⟩ := hLI
  refine x_aload_n C.1 dL_law_1089 2 rfl ?_
  refine x_aload_n C.1 dL_law_1090 3 rfl ?_
  refine x_iload_n C.1 dL_law_1091 0 rfl ?_
  refine x_iconst C.1 (n := 1) dL_law_1092 ?_
  refine x_iadd C.1 (v := i + 1) (by omega) dL_law_1093 ?_
  refine x_sld C (b := b) (i := i + 1) hX hbl hbA (by omega) (by omega) dL_law_1094 ?_
  refine x_aload_n C.1 dL_law_1095 3 rfl ?_
  refine x_iload_n C.1 dL_law_1096 0 rfl ?_
  refine x_iconst C.1 (n := 2) dL_law_1097 ?_
  refine x_iadd C.1 (v := i + 2) (by omega) dL_law_1098 ?_
  refine x_sld C (b := b) (i := i + 2) hX hbl hbA (by omega) (by omega) dL_law_1099 ?_
  refine x_callVi C (As := [vI ((xs (i + 1).toNat).toInt), vI ((xs (i + 2).toNat).toInt)]) (rest := []) 0 law_x vc_X11 (s_spread l D cy ux Vx Vx Jx Rx hVx hJx hRx ((xs (i + 1).toNat).toInt) (xi_r _) ((xs (i + 2).toNat).toInt) (xi_r _)) (l1 := []) (l2 := MW cy um Vm Jm Rm) rfl (w2 := fun u50 : Nat → Nat → Int => XW cy ux u50 Jx Rx ++ MW cy um Vm Jm Rm) (fun _ => rfl) rfl wm_yX11_spread wn_X11 wl_L_107 wi_yX11_spread we_yX11_spread hd_yX11_spread rfl ⟨Nat.le_of_ble_eq_true rfl, Nat.le_of_ble_eq_true rfl⟩ (Nat.le_of_ble_eq_true rfl) ⟨Nat.le_of_ble_eq_true rfl, Nat.le_of_ble_eq_true rfl⟩ dL_law_1100 (fun r50 u50 hr50 h50 => ?_)
  obtain ⟨hS50, hBq50⟩ := h50
  have hQ50 : XI u50 u50 := XI.toU hS50
  have hKq50 : u50 0 3 = Vx 0 3 := hBq50 0 3 (fun h => by omega)
  refine x_pop C.1 dL_law_1103 rfl ?_
  refine x_aload_n C.1 dL_law_1104 1 rfl ?_
  refine x_aload_n C.1 dL_law_1105 3 rfl ?_
  refine x_iload_n C.1 dL_law_1106 0 rfl ?_
  refine x_iconst C.1 (n := 1) dL_law_1107 ?_
  refine x_iadd C.1 (v := i + 1) (by omega) dL_law_1108 ?_
  refine x_sld C (b := b) (i := i + 1) hX hbl hbA (by omega) (by omega) dL_law_1109 ?_
  refine x_aload_n C.1 dL_law_1110 3 rfl ?_
  refine x_iload_n C.1 dL_law_1111 0 rfl ?_
  refine x_iconst C.1 (n := 2) dL_law_1112 ?_
  refine x_iadd C.1 (v := i + 2) (by omega) dL_law_1113 ?_
  refine x_sld C (b := b) (i := i + 2) hX hbl hbA (by omega) (by omega) dL_law_1114 ?_
  refine x_callVi C (As := [vI ((xs (i + 1).toNat).toInt), vI ((xs (i + 2).toNat).toInt)]) (rest := []) 129 law_m vc_X12 (m_spread l D cy um Vm Vm Jm Rm hVm hJm trivial ((xs (i + 1).toNat).toInt) (xi_r _) ((xs (i + 2).toNat).toInt) (xi_r _) hWm) (l1 := XW cy ux u50 Jx Rx) (l2 := []) (List.append_nil _).symm (w2 := fun u51 : Nat → Nat → Int => XW cy ux u50 Jx Rx ++ MW cy um u51 Jm Rm) (fun _ => List.append_nil _) rfl wm_yX12_spread wn_X12 wl_L_110 wi_yX12_spread we_yX12_spread hd_yX12_spread rfl ⟨Nat.le_of_ble_eq_true rfl, Nat.le_of_ble_eq_true rfl⟩ (Nat.le_of_ble_eq_true rfl) ⟨Nat.le_of_ble_eq_true rfl, Nat.le_of_ble_eq_true rfl⟩ dL_law_1115 (fun r51 u51 hr51 h51 => ?_)
  obtain ⟨hS51, hBq51⟩ := h51
  have hQ51 : MI u51 u51 := MI.sf hS51
  have hW51 : WP u51 := WP.of hS51 hWm
  have hKq51 : u51 0 53 = Vm 0 53 := hBq51 0 53 rfl
  refine x_pop C.1 dL_law_1118 rfl ?_
  refine x_goto C.1 (tgt := 1495) dL_law_1119 (by decide) ?_
  exact kk u50 Jx Rx u51 Jm Rm ⟨hQ50, hJx, hRx, hQ51, hJm, hW51, (by omega)⟩
set_option maxHeartbeats 8000000 in
set_option maxRecDepth 100000 in
theorem law_case_22 {p : Program} {e : Env} {s : State} {m : MethodId} {below : List Frame} {meth : Method} {c : Code} (l : Launch) (D : va_G) (cy : Nat → ClassId) {b L : Nat} {xs : Nat → Int32} (aK aV : Nat → Nat) (C : xC2 p s m #[Value.ref b] meth c D (fun q => s.heap.size ≤ q) s.heap 4 code RL (xTY cy)) (hE : zE aK aV (fun q => s.heap.size ≤ q) s s.heap) (hr : meth.sig.returnType = ret) (hX : va_X b L xs s s.heap) (hbl : b < s.heap.size) (hbA : ¬ (fun q : Nat => s.heap.size ≤ q) b) (hL : L ≤ 3072) (ux um : Nat → Nat) (i : Int) (hi : 0 ≤ i ∧ i + 6 ≤ L) (Vx Jx : Nat → Nat → Int) (Rx : Nat → Nat → Nat) (Vm Jm : Nat → Nat → Int) (Rm : Nat → Nat → Nat) (hLI : LI Vx Jx Rx Vm Jm Rm) (kk : ∀ (Vx Jx : Nat → Nat → Int) (Rx : Nat → Nat → Nat) (Vm Jm : Nat → Nat → Int) (Rm : Nat → Nat → Nat), LI Vx Jx Rx Vm Jm Rm → xW p l e room_1 s m #[Value.ref b] below meth c D (fun q => s.heap.size ≤ q) s.heap 4 162 8366 (lw_Z below #[Value.ref b] s) (XW cy ux Vx Jx Rx ++ MW cy um Vm Jm Rm) 1495 [(3, vI i), (2, .ref (um 0)), (1, .ref (ux 0)), (0, .ref b)] []) : xW p l e room_1 s m #[Value.ref b] below meth c D (fun q => s.heap.size ≤ q) s.heap 4 162 8366 (lw_Z below #[Value.ref b] s) (XW cy ux Vx Jx Rx ++ MW cy um Vm Jm Rm) 1122 [(3, vI i), (2, .ref (um 0)), (1, .ref (ux 0)), (0, .ref b)] [] := by
  obtain ⟨hVx, hJx, hRx, hVm, hJm, hWm, hKk⟩ := hLI
  refine x_aload_n C.1 dL_law_1122 2 rfl ?_
  refine x_aload_n C.1 dL_law_1123 3 rfl ?_
  refine x_iload_n C.1 dL_law_1124 0 rfl ?_
  refine x_iconst C.1 (n := 1) dL_law_1125 ?_
  refine x_iadd C.1 (v := i + 1) (by omega) dL_law_1126 ?_
  refine x_sld C (b := b) (i := i + 1) hX hbl hbA (by omega) (by omega) dL_law_1127 ?_
  refine x_aload_n C.1 dL_law_1128 3 rfl ?_
  refine x_iload_n C.1 dL_law_1129 0 rfl ?_
  refine x_iconst C.1 (n := 2) dL_law_1130 ?_
  refine x_iadd C.1 (v := i + 2) (by omega) dL_law_1131 ?_
  refine x_sld C (b := b) (i := i + 2) hX hbl hbA (by omega) (by omega) dL_law_1132 ?_
  refine x_aload_n C.1 dL_law_1133 3 rfl ?_
  refine x_iload_n C.1 dL_law_1134 0 rfl ?_
  refine x_iconst C.1 (n := 3) dL_law_1135 ?_
  refine x_iadd C.1 (v := i + 3) (by omega) dL_law_1136 ?_
  refine x_sld C (b := b) (i := i + 3) hX hbl hbA (by omega) (by omega) dL_law_1137 ?_
  refine x_callVl C (As := [vI ((xs (i + 1).toNat).toInt), vI ((xs (i + 2).toNat).toInt), vI ((xs (i + 3).toNat).toInt)]) (rest := []) 0 law_x vc_X11 (s_comes l D cy ux Vx Vx Jx Rx hVx hJx hRx ((xs (i + 1).toNat).toInt) (xi_r _) ((xs (i + 2).toNat).toInt) (xi_r _) ((xs (i + 3).toNat).toInt) (xi_r _)) (l1 := []) (l2 := MW cy um Vm Jm Rm) rfl (w2 := fun u52 : xS => XW cy ux u52.1 u52.2.1 u52.2.2 ++ MW cy um Vm Jm Rm) (fun _ => rfl) rfl wm_yX11_comes wn_X11 wl_L_111 wi_yX11_comes we_yX11_comes hd_yX11_comes rfl ⟨Nat.le_of_ble_eq_true rfl, Nat.le_of_ble_eq_true rfl⟩ (Nat.le_of_ble_eq_true rfl) ⟨Nat.le_of_ble_eq_true rfl, Nat.le_of_ble_eq_true rfl⟩ dL_law_1138 (fun r52 u52 hr52 h52 => ?_)
  obtain ⟨hS52, hBq52⟩ := h52
  obtain ⟨V52, J52, R52⟩ := u52
  obtain ⟨hI52, hJ52, hR52⟩ := hS52
  dsimp only at hI52 hJ52 hR52 ⊢
  have hQ52 : XI V52 V52 := XI.toU hI52
  have hKq52 : V52 0 3 = Vx 0 3 := hBq52 0 3 (fun h => by omega)
  refine x_pop2 C.1 dL_law_1141 rfl ?_
  refine x_aload_n C.1 dL_law_1142 1 rfl ?_
  refine x_aload_n C.1 dL_law_1143 3 rfl ?_
  refine x_iload_n C.1 dL_law_1144 0 rfl ?_
  refine x_iconst C.1 (n := 1) dL_law_1145 ?_
  refine x_iadd C.1 (v := i + 1) (by omega) dL_law_1146 ?_
  refine x_sld C (b := b) (i := i + 1) hX hbl hbA (by omega) (by omega) dL_law_1147 ?_
  refine x_aload_n C.1 dL_law_1148 3 rfl ?_
  refine x_iload_n C.1 dL_law_1149 0 rfl ?_
  refine x_iconst C.1 (n := 2) dL_law_1150 ?_
  refine x_iadd C.1 (v := i + 2) (by omega) dL_law_1151 ?_
  refine x_sld C (b := b) (i := i + 2) hX hbl hbA (by omega) (by omega) dL_law_1152 ?_
  refine x_aload_n C.1 dL_law_1153 3 rfl ?_
  refine x_iload_n C.1 dL_law_1154 0 rfl ?_
  refine x_iconst C.1 (n := 3) dL_law_1155 ?_
  refine x_iadd C.1 (v := i + 3) (by omega) dL_law_1156 ?_
  refine x_sld C (b := b) (i := i + 3) hX hbl hbA (by omega) (by omega) dL_law_1157 ?_
  refine x_callVl C (As := [vI ((xs (i + 1).toNat).toInt), vI ((xs (i + 2).toNat).toInt), vI ((xs (i + 3).toNat).toInt)]) (rest := []) 129 law_m vc_X12 (m_comes l D cy um Vm Vm Jm Rm hVm hJm trivial ((xs (i + 1).toNat).toInt) (xi_r _) ((xs (i + 2).toNat).toInt) (xi_r _) ((xs (i + 3).toNat).toInt) (xi_r _)) (l1 := XW cy ux V52 J52 R52) (l2 := []) (List.append_nil _).symm (w2 := fun u53 : xS => XW cy ux V52 J52 R52 ++ MW cy um u53.1 u53.2.1 u53.2.2) (fun _ => List.append_nil _) rfl wm_yX12_comes wn_X12 wl_L_115 wi_yX12_comes we_yX12_comes hd_yX12_comes rfl ⟨Nat.le_of_ble_eq_true rfl, Nat.le_of_ble_eq_true rfl⟩ (Nat.le_of_ble_eq_true rfl) ⟨Nat.le_of_ble_eq_true rfl, Nat.le_of_ble_eq_true rfl⟩ dL_law_1158 (fun r53 u53 hr53 h53 => ?_)
  obtain ⟨hS53, hBq53⟩ := h53
  obtain ⟨V53, J53, R53⟩ := u53
  obtain ⟨hI53, hJ53, hR53⟩ := hS53
  dsimp only at hI53 hJ53 hR53 ⊢
  have hQ53 : MI V53 V53 := MI.sf hI53
  have hW53 : WP V53 := WP.of hI53 hWm
  have hKq53 : V53 0 53 = Vm 0 53 := hBq53 0 53 rfl
  refine x_pop2 C.1 dL_law_1161 rfl ?_
  refine x_goto C.1 (tgt := 1495) dL_law_1162 (by decide) ?_
  exact kk V52 J52 R52 V53 J53 R53 ⟨hQ52, hJ52, hR52, hQ53, hJ53, hW53, (by omega)⟩
set_option maxHeartbeats 8000000 in
set_option maxRecDepth 100000 in
theorem law_case_23 {p : Program} {e : Env} {s : State} {m : MethodId} {below : List Frame} {meth : Method} {c : Code} (l : Launch) (D : va_G) (cy : Nat → ClassId) {b L : Nat} {xs : Nat → Int32} (aK aV : Nat → Nat) (C : xC2 p s m #[Value.ref b] meth c D (fun q => s.heap.size ≤ q) s.heap 4 code RL (xTY cy)) (hE : zE aK aV (fun q => s.heap.size ≤ q) s s.heap) (hr : meth.sig.returnType = ret) (hX : va_X b L xs s s.heap) (hbl : b < s.heap.size) (hbA : ¬ (fun q : Nat => s.heap.size ≤ q) b) (hL : L ≤ 3072) (ux um : Nat → Nat) (i : Int) (hi : 0 ≤ i ∧ i + 6 ≤ L) (Vx Jx : Nat → Nat → Int) (Rx : Nat → Nat → Nat) (Vm Jm : Nat → Nat → Int) (Rm : Nat → Nat → Nat) (hLI : LI Vx Jx Rx Vm Jm Rm) (kk : ∀ (Vx Jx : Nat → Nat → Int) (Rx : Nat → Nat → Nat) (Vm Jm : Nat → Nat → Int) (Rm : Nat → Nat → Nat), LI Vx Jx Rx Vm Jm Rm → xW p l e room_1 s m #[Value.ref b] below meth c D (fun q => s.heap.size ≤ q) s.heap 4 162 8366 (lw_Z below #[Value.ref b] s) (XW cy ux Vx Jx Rx ++ MW cy um Vm Jm Rm) 1495 [(3, vI i), (2, .ref (um 0)), (1, .ref (ux 0)), (0, .ref b)] []) : xW p l e room_1 s m #[Value.ref b] below meth c D (fun q => s.heap.size ≤ q) s.heap 4 162 8366 (lw_Z below #[Value.ref b] s) (XW cy ux Vx Jx Rx ++ MW cy um Vm Jm Rm) 1165 [(3, vI i), (2, .ref (um 0)), (1, .ref (ux 0)), (0, .ref b)] [] := by
  obtain ⟨hVx, hJx, hRx, hVm, hJm, hWm, hKk⟩ := hLI
  refine x_aload_n C.1 dL_law_1165 2 rfl ?_
  refine x_aload_n C.1 dL_law_1166 3 rfl ?_
  refine x_iload_n C.1 dL_law_1167 0 rfl ?_
  refine x_iconst C.1 (n := 1) dL_law_1168 ?_
  refine x_iadd C.1 (v := i + 1) (by omega) dL_law_1169 ?_
  refine x_sld C (b := b) (i := i + 1) hX hbl hbA (by omega) (by omega) dL_law_1170 ?_
  refine x_aload_n C.1 dL_law_1171 3 rfl ?_
  refine x_iload_n C.1 dL_law_1172 0 rfl ?_
  refine x_iconst C.1 (n := 2) dL_law_1173 ?_
  refine x_iadd C.1 (v := i + 2) (by omega) dL_law_1174 ?_
  refine x_sld C (b := b) (i := i + 2) hX hbl hbA (by omega) (by omega) dL_law_1175 ?_
  refine x_callVi C (As := [vI ((xs (i + 1).toNat).toInt), vI ((xs (i + 2).toNat).toInt)]) (rest := []) 0 law_x vc_X11 (s_share l D cy ux Vx Vx Jx Rx hVx hJx hRx ((xs (i + 1).toNat).toInt) (xi_r _) ((xs (i + 2).toNat).toInt) (xi_r _)) (l1 := []) (l2 := MW cy um Vm Jm Rm) rfl (w2 := fun u54 : Unit => XW cy ux Vx Jx Rx ++ MW cy um Vm Jm Rm) (fun _ => rfl) rfl wm_yX11_share wn_X11 wl_L_116 wi_yX11_share we_yX11_share hd_yX11_share rfl ⟨Nat.le_of_ble_eq_true rfl, Nat.le_of_ble_eq_true rfl⟩ (Nat.le_of_ble_eq_true rfl) ⟨Nat.le_of_ble_eq_true rfl, Nat.le_of_ble_eq_true rfl⟩ dL_law_1176 (fun r54 u54 hr54 h54 => ?_)
  refine x_pop C.1 dL_law_1179 rfl ?_
  refine x_aload_n C.1 dL_law_1180 1 rfl ?_
  refine x_aload_n C.1 dL_law_1181 3 rfl ?_
  refine x_iload_n C.1 dL_law_1182 0 rfl ?_
  refine x_iconst C.1 (n := 1) dL_law_1183 ?_
  refine x_iadd C.1 (v := i + 1) (by omega) dL_law_1184 ?_
  refine x_sld C (b := b) (i := i + 1) hX hbl hbA (by omega) (by omega) dL_law_1185 ?_
  refine x_aload_n C.1 dL_law_1186 3 rfl ?_
  refine x_iload_n C.1 dL_law_1187 0 rfl ?_
  refine x_iconst C.1 (n := 2) dL_law_1188 ?_
  refine x_iadd C.1 (v := i + 2) (by omega) dL_law_1189 ?_
  refine x_sld C (b := b) (i := i + 2) hX hbl hbA (by omega) (by omega) dL_law_1190 ?_
  refine x_callVi C (As := [vI ((xs (i + 1).toNat).toInt), vI ((xs (i + 2).toNat).toInt)]) (rest := []) 129 law_m vc_X12 (m_share l D cy um Vm Vm Jm Rm hVm hJm trivial ((xs (i + 1).toNat).toInt) (xi_r _) ((xs (i + 2).toNat).toInt) (xi_r _)) (l1 := XW cy ux Vx Jx Rx) (l2 := []) (List.append_nil _).symm (w2 := fun u55 : Unit => XW cy ux Vx Jx Rx ++ MW cy um Vm Jm Rm) (fun _ => List.append_nil _) rfl wm_yX12_share wn_X12 wl_L_119 wi_yX12_share we_yX12_share hd_yX12_share rfl ⟨Nat.le_of_ble_eq_true rfl, Nat.le_of_ble_eq_true rfl⟩ (Nat.le_of_ble_eq_true rfl) ⟨Nat.le_of_ble_eq_true rfl, Nat.le_of_ble_eq_true rfl⟩ dL_law_1191 (fun r55 u55 hr55 h55 => ?_)
  refine x_pop C.1 dL_law_1194 rfl ?_
  refine x_goto C.1 (tgt := 1495) dL_law_1195 (by decide) ?_
  exact kk Vx Jx Rx Vm Jm Rm ⟨hVx, hJx, hRx, hVm, hJm, hWm, (by omega)⟩
set_option maxHeartbeats 8000000 in
set_option maxRecDepth 100000 in
theorem law_case_24 {p : Program} {e : Env} {s : State} {m : MethodId} {below : List Frame} {meth : Method} {c : Code} (l : Launch) (D : va_G) (cy : Nat → ClassId) {b L : Nat} {xs : Nat → Int32} (aK aV : Nat → Nat) (C : xC2 p s m #[Value.ref b] meth c D (fun q => s.heap.size ≤ q) s.heap 4 code RL (xTY cy)) (hE : zE aK aV (fun q => s.heap.size ≤ q) s s.heap) (hr : meth.sig.returnType = ret) (hX : va_X b L xs s s.heap) (hbl : b < s.heap.size) (hbA : ¬ (fun q : Nat => s.heap.size ≤ q) b) (hL : L ≤ 3072) (ux um : Nat → Nat) (i : Int) (hi : 0 ≤ i ∧ i + 6 ≤ L) (Vx Jx : Nat → Nat → Int) (Rx : Nat → Nat → Nat) (Vm Jm : Nat → Nat → Int) (Rm : Nat → Nat → Nat) (hLI : LI Vx Jx Rx Vm Jm Rm) (kk : ∀ (Vx Jx : Nat → Nat → Int) (Rx : Nat → Nat → Nat) (Vm Jm : Nat → Nat → Int) (Rm : Nat → Nat → Nat), LI Vx Jx Rx Vm Jm Rm → xW p l e room_1 s m #[Value.ref b] below meth c D (fun q => s.heap.size ≤ q) s.heap 4 162 8366 (lw_Z below #[Value.ref b] s) (XW cy ux Vx Jx Rx ++ MW cy um Vm Jm Rm) 1495 [(3, vI i), (2, .ref (um 0)), (1, .ref (ux 0)), (0, .ref b)] []) : xW p l e room_1 s m #[Value.ref b] below meth c D (fun q => s.heap.size ≤ q) s.heap 4 162 8366 (lw_Z below #[Value.ref b] s) (XW cy ux Vx Jx Rx ++ MW cy um Vm Jm Rm) 1198 [(3, vI i), (2, .ref (um 0)), (1, .ref (ux 0)), (0, .ref b)] [] := by
  obtain ⟨hVx, hJx, hRx, hVm, hJm, hWm, hKk⟩ := hLI
  refine x_aload_n C.1 dL_law_1198 2 rfl ?_
  refine x_aload_n C.1 dL_law_1199 3 rfl ?_
  refine x_iload_n C.1 dL_law_1200 0 rfl ?_
  refine x_iconst C.1 (n := 1) dL_law_1201 ?_
  refine x_iadd C.1 (v := i + 1) (by omega) dL_law_1202 ?_
  refine x_sld C (b := b) (i := i + 1) hX hbl hbA (by omega) (by omega) dL_law_1203 ?_
  refine x_aload_n C.1 dL_law_1204 3 rfl ?_
  refine x_iload_n C.1 dL_law_1205 0 rfl ?_
  refine x_iconst C.1 (n := 2) dL_law_1206 ?_
  refine x_iadd C.1 (v := i + 2) (by omega) dL_law_1207 ?_
  refine x_sld C (b := b) (i := i + 2) hX hbl hbA (by omega) (by omega) dL_law_1208 ?_
  refine x_aload_n C.1 dL_law_1209 3 rfl ?_
  refine x_iload_n C.1 dL_law_1210 0 rfl ?_
  refine x_iconst C.1 (n := 3) dL_law_1211 ?_
  refine x_iadd C.1 (v := i + 3) (by omega) dL_law_1212 ?_
  refine x_sld C (b := b) (i := i + 3) hX hbl hbA (by omega) (by omega) dL_law_1213 ?_
  refine x_callVi C (As := [vI ((xs (i + 1).toNat).toInt), vI ((xs (i + 2).toNat).toInt), vI ((xs (i + 3).toNat).toInt)]) (rest := []) 0 law_x vc_X11 (s_rota l D cy ux Vx Vx Jx Rx hVx hJx hRx ((xs (i + 1).toNat).toInt) (xi_r _) ((xs (i + 2).toNat).toInt) (xi_r _) ((xs (i + 3).toNat).toInt) (xi_r _)) (l1 := []) (l2 := MW cy um Vm Jm Rm) rfl (w2 := fun u56 : Nat → Nat → Int => XW cy ux u56 Jx Rx ++ MW cy um Vm Jm Rm) (fun _ => rfl) rfl wm_yX11_rota wn_X11 wl_L_120 wi_yX11_rota we_yX11_rota hd_yX11_rota rfl ⟨Nat.le_of_ble_eq_true rfl, Nat.le_of_ble_eq_true rfl⟩ (Nat.le_of_ble_eq_true rfl) ⟨Nat.le_of_ble_eq_true rfl, Nat.le_of_ble_eq_true rfl⟩ dL_law_1214 (fun r56 u56 hr56 h56 => ?_)
  obtain ⟨hS56, hBq56⟩ := h56
  have hQ56 : XI u56 u56 := XI.toU hS56
  have hKq56 : u56 0 3 = Vx 0 3 := hBq56 0 3 (fun h => by omega)
  refine x_pop C.1 dL_law_1217 rfl ?_
  refine x_aload_n C.1 dL_law_1218 1 rfl ?_
  refine x_aload_n C.1 dL_law_1219 3 rfl ?_
  refine x_iload_n C.1 dL_law_1220 0 rfl ?_
  refine x_iconst C.1 (n := 1) dL_law_1221 ?_
  refine x_iadd C.1 (v := i + 1) (by omega) dL_law_1222 ?_
  refine x_sld C (b := b) (i := i + 1) hX hbl hbA (by omega) (by omega) dL_law_1223 ?_
  refine x_aload_n C.1 dL_law_1224 3 rfl ?_
  refine x_iload_n C.1 dL_law_1225 0 rfl ?_
  refine x_iconst C.1 (n := 2) dL_law_1226 ?_
  refine x_iadd C.1 (v := i + 2) (by omega) dL_law_1227 ?_
  refine x_sld C (b := b) (i := i + 2) hX hbl hbA (by omega) (by omega) dL_law_1228 ?_
  refine x_aload_n C.1 dL_law_1229 3 rfl ?_
  refine x_iload_n C.1 dL_law_1230 0 rfl ?_
  refine x_iconst C.1 (n := 3) dL_law_1231 ?_
  refine x_iadd C.1 (v := i + 3) (by omega) dL_law_1232 ?_
  refine x_sld C (b := b) (i := i + 3) hX hbl hbA (by omega) (by omega) dL_law_1233 ?_
  refine x_callVi C (As := [vI ((xs (i + 1).toNat).toInt), vI ((xs (i + 2).toNat).toInt), vI ((xs (i + 3).toNat).toInt)]) (rest := []) 129 law_m vc_X12 (m_rota l D cy um Vm Vm Jm Rm hVm hJm trivial ((xs (i + 1).toNat).toInt) (xi_r _) ((xs (i + 2).toNat).toInt) (xi_r _) ((xs (i + 3).toNat).toInt) (xi_r _) hWm) (l1 := XW cy ux u56 Jx Rx) (l2 := []) (List.append_nil _).symm (w2 := fun u57 : Nat → Nat → Int => XW cy ux u56 Jx Rx ++ MW cy um u57 Jm Rm) (fun _ => List.append_nil _) rfl wm_yX12_rota wn_X12 wl_L_123 wi_yX12_rota we_yX12_rota hd_yX12_rota rfl ⟨Nat.le_of_ble_eq_true rfl, Nat.le_of_ble_eq_true rfl⟩ (Nat.le_of_ble_eq_true rfl) ⟨Nat.le_of_ble_eq_true rfl, Nat.le_of_ble_eq_true rfl⟩ dL_law_1234 (fun r57 u57 hr57 h57 => ?_)
  obtain ⟨hS57, hBq57⟩ := h57
  have hQ57 : MI u57 u57 := MI.sf hS57
  have hW57 : WP u57 := WP.of hS57 hWm
  have hKq57 : u57 0 53 = Vm 0 53 := hBq57 0 53 rfl
  refine x_pop C.1 dL_law_1237 rfl ?_
  refine x_goto C.1 (tgt := 1495) dL_law_1238 (by decide) ?_
  exact kk u56 Jx Rx u57 Jm Rm ⟨hQ56, hJx, hRx, hQ57, hJm, hW57, (by omega)⟩
set_option maxHeartbeats 8000000 in
set_option maxRecDepth 100000 in
theorem law_case_25 {p : Program} {e : Env} {s : State} {m : MethodId} {below : List Frame} {meth : Method} {c : Code} (l : Launch) (D : va_G) (cy : Nat → ClassId) {b L : Nat} {xs : Nat → Int32} (aK aV : Nat → Nat) (C : xC2 p s m #[Value.ref b] meth c D (fun q => s.heap.size ≤ q) s.heap 4 code RL (xTY cy)) (hE : zE aK aV (fun q => s.heap.size ≤ q) s s.heap) (hr : meth.sig.returnType = ret) (hX : va_X b L xs s s.heap) (hbl : b < s.heap.size) (hbA : ¬ (fun q : Nat => s.heap.size ≤ q) b) (hL : L ≤ 3072) (ux um : Nat → Nat) (i : Int) (hi : 0 ≤ i ∧ i + 6 ≤ L) (Vx Jx : Nat → Nat → Int) (Rx : Nat → Nat → Nat) (Vm Jm : Nat → Nat → Int) (Rm : Nat → Nat → Nat) (hLI : LI Vx Jx Rx Vm Jm Rm) (kk : ∀ (Vx Jx : Nat → Nat → Int) (Rx : Nat → Nat → Nat) (Vm Jm : Nat → Nat → Int) (Rm : Nat → Nat → Nat), LI Vx Jx Rx Vm Jm Rm → xW p l e room_1 s m #[Value.ref b] below meth c D (fun q => s.heap.size ≤ q) s.heap 4 162 8366 (lw_Z below #[Value.ref b] s) (XW cy ux Vx Jx Rx ++ MW cy um Vm Jm Rm) 1495 [(3, vI i), (2, .ref (um 0)), (1, .ref (ux 0)), (0, .ref b)] []) : xW p l e room_1 s m #[Value.ref b] below meth c D (fun q => s.heap.size ≤ q) s.heap 4 162 8366 (lw_Z below #[Value.ref b] s) (XW cy ux Vx Jx Rx ++ MW cy um Vm Jm Rm) 1241 [(3, vI i), (2, .ref (um 0)), (1, .ref (ux 0)), (0, .ref b)] [] := by
  obtain ⟨hVx, hJx, hRx, hVm, hJm, hWm, hKk⟩ := hLI
  refine x_aload_n C.1 dL_law_1241 2 rfl ?_
  refine x_aload_n C.1 dL_law_1242 3 rfl ?_
  refine x_iload_n C.1 dL_law_1243 0 rfl ?_
  refine x_iconst C.1 (n := 1) dL_law_1244 ?_
  refine x_iadd C.1 (v := i + 1) (by omega) dL_law_1245 ?_
  refine x_sld C (b := b) (i := i + 1) hX hbl hbA (by omega) (by omega) dL_law_1246 ?_
  refine x_aload_n C.1 dL_law_1247 3 rfl ?_
  refine x_iload_n C.1 dL_law_1248 0 rfl ?_
  refine x_iconst C.1 (n := 2) dL_law_1249 ?_
  refine x_iadd C.1 (v := i + 2) (by omega) dL_law_1250 ?_
  refine x_sld C (b := b) (i := i + 2) hX hbl hbA (by omega) (by omega) dL_law_1251 ?_
  refine x_callVi C (As := [vI ((xs (i + 1).toNat).toInt), vI ((xs (i + 2).toNat).toInt)]) (rest := []) 0 law_x vc_X11 (s_alone l D cy ux Vx Vx Jx Rx hVx hJx hRx ((xs (i + 1).toNat).toInt) (xi_r _) ((xs (i + 2).toNat).toInt) (xi_r _)) (l1 := []) (l2 := MW cy um Vm Jm Rm) rfl (w2 := fun u58 : Nat → Nat → Int => XW cy ux u58 Jx Rx ++ MW cy um Vm Jm Rm) (fun _ => rfl) rfl wm_yX11_alone wn_X11 wl_L_124 wi_yX11_alone we_yX11_alone hd_yX11_alone rfl ⟨Nat.le_of_ble_eq_true rfl, Nat.le_of_ble_eq_true rfl⟩ (Nat.le_of_ble_eq_true rfl) ⟨Nat.le_of_ble_eq_true rfl, Nat.le_of_ble_eq_true rfl⟩ dL_law_1252 (fun r58 u58 hr58 h58 => ?_)
  obtain ⟨hS58, hBq58⟩ := h58
  have hQ58 : XI u58 u58 := XI.toU hS58
  have hKq58 : u58 0 3 = Vx 0 3 := hBq58 0 3 (fun h => by omega)
  refine x_pop C.1 dL_law_1255 rfl ?_
  refine x_aload_n C.1 dL_law_1256 1 rfl ?_
  refine x_aload_n C.1 dL_law_1257 3 rfl ?_
  refine x_iload_n C.1 dL_law_1258 0 rfl ?_
  refine x_iconst C.1 (n := 1) dL_law_1259 ?_
  refine x_iadd C.1 (v := i + 1) (by omega) dL_law_1260 ?_
  refine x_sld C (b := b) (i := i + 1) hX hbl hbA (by omega) (by omega) dL_law_1261 ?_
  refine x_aload_n C.1 dL_law_1262 3 rfl ?_
  refine x_iload_n C.1 dL_law_1263 0 rfl ?_
  refine x_iconst C.1 (n := 2) dL_law_1264 ?_
  refine x_iadd C.1 (v := i + 2) (by omega) dL_law_1265 ?_
  refine x_sld C (b := b) (i := i + 2) hX hbl hbA (by omega) (by omega) dL_law_1266 ?_
  refine x_callVi C (As := [vI ((xs (i + 1).toNat).toInt), vI ((xs (i + 2).toNat).toInt)]) (rest := []) 129 law_m vc_X12 (m_alone l D cy um Vm Vm Jm Rm hVm hJm trivial ((xs (i + 1).toNat).toInt) (xi_r _) ((xs (i + 2).toNat).toInt) (xi_r _) hWm) (l1 := XW cy ux u58 Jx Rx) (l2 := []) (List.append_nil _).symm (w2 := fun u59 : Nat → Nat → Int => XW cy ux u58 Jx Rx ++ MW cy um u59 Jm Rm) (fun _ => List.append_nil _) rfl wm_yX12_alone wn_X12 wl_L_127 wi_yX12_alone we_yX12_alone hd_yX12_alone rfl ⟨Nat.le_of_ble_eq_true rfl, Nat.le_of_ble_eq_true rfl⟩ (Nat.le_of_ble_eq_true rfl) ⟨Nat.le_of_ble_eq_true rfl, Nat.le_of_ble_eq_true rfl⟩ dL_law_1267 (fun r59 u59 hr59 h59 => ?_)
  obtain ⟨hS59, hBq59⟩ := h59
  have hQ59 : MI u59 u59 := MI.sf hS59
  have hW59 : WP u59 := WP.of hS59 hWm
  have hKq59 : u59 0 53 = Vm 0 53 := hBq59 0 53 rfl
  refine x_pop C.1 dL_law_1270 rfl ?_
  refine x_goto C.1 (tgt := 1495) dL_law_1271 (by decide) ?_
  exact kk u58 Jx Rx u59 Jm Rm ⟨hQ58, hJx, hRx, hQ59, hJm, hW59, (by omega)⟩
set_option maxHeartbeats 8000000 in
set_option maxRecDepth 100000 in
theorem law_case_26 {p : Program} {e : Env} {s : State} {m : MethodId} {below : List Frame} {meth : Method} {c : Code} (l : Launch) (D : va_G) (cy : Nat → ClassId) {b L : Nat} {xs : Nat → Int32} (aK aV : Nat → Nat) (C : xC2 p s m #[Value.ref b] meth c D (fun q => s.heap.size ≤ q) s.heap 4 code RL (xTY cy)) (hE : zE aK aV (fun q => s.heap.size ≤ q) s s.heap) (hr : meth.sig.returnType = ret) (hX : va_X b L xs s s.heap) (hbl : b < s.heap.size) (hbA : ¬ (fun q : Nat => s.heap.size ≤ q) b) (hL : L ≤ 3072) (ux um : Nat → Nat) (i : Int) (hi : 0 ≤ i ∧ i + 6 ≤ L) (Vx Jx : Nat → Nat → Int) (Rx : Nat → Nat → Nat) (Vm Jm : Nat → Nat → Int) (Rm : Nat → Nat → Nat) (hLI : LI Vx Jx Rx Vm Jm Rm) (kk : ∀ (Vx Jx : Nat → Nat → Int) (Rx : Nat → Nat → Nat) (Vm Jm : Nat → Nat → Int) (Rm : Nat → Nat → Nat), LI Vx Jx Rx Vm Jm Rm → xW p l e room_1 s m #[Value.ref b] below meth c D (fun q => s.heap.size ≤ q) s.heap 4 162 8366 (lw_Z below #[Value.ref b] s) (XW cy ux Vx Jx Rx ++ MW cy um Vm Jm Rm) 1495 [(3, vI i), (2, .ref (um 0)), (1, .ref (ux 0)), (0, .ref b)] []) : xW p l e room_1 s m #[Value.ref b] below meth c D (fun q => s.heap.size ≤ q) s.heap 4 162 8366 (lw_Z below #[Value.ref b] s) (XW cy ux Vx Jx Rx ++ MW cy um Vm Jm Rm) 1274 [(3, vI i), (2, .ref (um 0)), (1, .ref (ux 0)), (0, .ref b)] [] := by
  obtain ⟨hVx, hJx, hRx, hVm, hJm, hWm, hKk⟩ := hLI
  refine x_aload_n C.1 dL_law_1274 2 rfl ?_
  refine x_aload_n C.1 dL_law_1275 3 rfl ?_
  refine x_iload_n C.1 dL_law_1276 0 rfl ?_
  refine x_iconst C.1 (n := 1) dL_law_1277 ?_
  refine x_iadd C.1 (v := i + 1) (by omega) dL_law_1278 ?_
  refine x_sld C (b := b) (i := i + 1) hX hbl hbA (by omega) (by omega) dL_law_1279 ?_
  refine x_aload_n C.1 dL_law_1280 3 rfl ?_
  refine x_iload_n C.1 dL_law_1281 0 rfl ?_
  refine x_iconst C.1 (n := 2) dL_law_1282 ?_
  refine x_iadd C.1 (v := i + 2) (by omega) dL_law_1283 ?_
  refine x_sld C (b := b) (i := i + 2) hX hbl hbA (by omega) (by omega) dL_law_1284 ?_
  refine x_aload_n C.1 dL_law_1285 3 rfl ?_
  refine x_iload_n C.1 dL_law_1286 0 rfl ?_
  refine x_iconst C.1 (n := 3) dL_law_1287 ?_
  refine x_iadd C.1 (v := i + 3) (by omega) dL_law_1288 ?_
  refine x_sld C (b := b) (i := i + 3) hX hbl hbA (by omega) (by omega) dL_law_1289 ?_
  refine x_aload_n C.1 dL_law_1290 3 rfl ?_
  refine x_iload_n C.1 dL_law_1291 0 rfl ?_
  refine x_iconst C.1 (n := 4) dL_law_1292 ?_
  refine x_iadd C.1 (v := i + 4) (by omega) dL_law_1293 ?_
  refine x_sld C (b := b) (i := i + 4) hX hbl hbA (by omega) (by omega) dL_law_1294 ?_
  refine x_aload_n C.1 dL_law_1295 3 rfl ?_
  refine x_iload_n C.1 dL_law_1296 0 rfl ?_
  refine x_iconst C.1 (n := 5) dL_law_1297 ?_
  refine x_iadd C.1 (v := i + 5) (by omega) dL_law_1298 ?_
  refine x_sld C (b := b) (i := i + 5) hX hbl hbA (by omega) (by omega) dL_law_1299 ?_
  refine x_callVl C (As := [vI ((xs (i + 1).toNat).toInt), vI ((xs (i + 2).toNat).toInt), vI ((xs (i + 3).toNat).toInt), vI ((xs (i + 4).toNat).toInt), vI ((xs (i + 5).toNat).toInt)]) (rest := []) 0 law_x vc_X11 (s_whoDid l D cy ux Vx Vx Jx Rx hVx hJx hRx ((xs (i + 1).toNat).toInt) (xi_r _) ((xs (i + 2).toNat).toInt) (xi_r _) ((xs (i + 3).toNat).toInt) (xi_r _) ((xs (i + 4).toNat).toInt) (xi_r _) ((xs (i + 5).toNat).toInt) (xi_r _)) (l1 := []) (l2 := MW cy um Vm Jm Rm) rfl (w2 := fun u60 : Nat → Nat → Int => XW cy ux u60 Jx Rx ++ MW cy um Vm Jm Rm) (fun _ => rfl) rfl wm_yX11_whoDid wn_X11 wl_L_128 wi_yX11_whoDid we_yX11_whoDid hd_yX11_whoDid rfl ⟨Nat.le_of_ble_eq_true rfl, Nat.le_of_ble_eq_true rfl⟩ (Nat.le_of_ble_eq_true rfl) ⟨Nat.le_of_ble_eq_true rfl, Nat.le_of_ble_eq_true rfl⟩ dL_law_1300 (fun r60 u60 hr60 h60 => ?_)
  obtain ⟨hS60, hBq60⟩ := h60
  have hQ60 : XI u60 u60 := XI.toU hS60
  have hKq60 : u60 0 3 = Vx 0 3 := hBq60 0 3 (fun h => by omega)
  refine x_pop2 C.1 dL_law_1303 rfl ?_
  refine x_aload_n C.1 dL_law_1304 1 rfl ?_
  refine x_aload_n C.1 dL_law_1305 3 rfl ?_
  refine x_iload_n C.1 dL_law_1306 0 rfl ?_
  refine x_iconst C.1 (n := 1) dL_law_1307 ?_
  refine x_iadd C.1 (v := i + 1) (by omega) dL_law_1308 ?_
  refine x_sld C (b := b) (i := i + 1) hX hbl hbA (by omega) (by omega) dL_law_1309 ?_
  refine x_aload_n C.1 dL_law_1310 3 rfl ?_
  refine x_iload_n C.1 dL_law_1311 0 rfl ?_
  refine x_iconst C.1 (n := 2) dL_law_1312 ?_
  refine x_iadd C.1 (v := i + 2) (by omega) dL_law_1313 ?_
  refine x_sld C (b := b) (i := i + 2) hX hbl hbA (by omega) (by omega) dL_law_1314 ?_
  refine x_aload_n C.1 dL_law_1315 3 rfl ?_
  refine x_iload_n C.1 dL_law_1316 0 rfl ?_
  refine x_iconst C.1 (n := 3) dL_law_1317 ?_
  refine x_iadd C.1 (v := i + 3) (by omega) dL_law_1318 ?_
  refine x_sld C (b := b) (i := i + 3) hX hbl hbA (by omega) (by omega) dL_law_1319 ?_
  refine x_aload_n C.1 dL_law_1320 3 rfl ?_
  refine x_iload_n C.1 dL_law_1321 0 rfl ?_
  refine x_iconst C.1 (n := 4) dL_law_1322 ?_
  refine x_iadd C.1 (v := i + 4) (by omega) dL_law_1323 ?_
  refine x_sld C (b := b) (i := i + 4) hX hbl hbA (by omega) (by omega) dL_law_1324 ?_
  refine x_aload_n C.1 dL_law_1325 3 rfl ?_
  refine x_iload_n C.1 dL_law_1326 0 rfl ?_
  refine x_iconst C.1 (n := 5) dL_law_1327 ?_
  refine x_iadd C.1 (v := i + 5) (by omega) dL_law_1328 ?_
  refine x_sld C (b := b) (i := i + 5) hX hbl hbA (by omega) (by omega) dL_law_1329 ?_
  refine x_callVl C (As := [vI ((xs (i + 1).toNat).toInt), vI ((xs (i + 2).toNat).toInt), vI ((xs (i + 3).toNat).toInt), vI ((xs (i + 4).toNat).toInt), vI ((xs (i + 5).toNat).toInt)]) (rest := []) 129 law_m vc_X12 (m_whoDid l D cy um Vm Vm Jm Rm hVm hJm trivial ((xs (i + 1).toNat).toInt) (xi_r _) ((xs (i + 2).toNat).toInt) (xi_r _) ((xs (i + 3).toNat).toInt) (xi_r _) ((xs (i + 4).toNat).toInt) (xi_r _) ((xs (i + 5).toNat).toInt) (xi_r _)) (l1 := XW cy ux u60 Jx Rx) (l2 := []) (List.append_nil _).symm (w2 := fun u61 : Nat → Nat → Int => XW cy ux u60 Jx Rx ++ MW cy um u61 Jm Rm) (fun _ => List.append_nil _) rfl wm_yX12_whoDid wn_X12 wl_L_131 wi_yX12_whoDid we_yX12_whoDid hd_yX12_whoDid rfl ⟨Nat.le_of_ble_eq_true rfl, Nat.le_of_ble_eq_true rfl⟩ (Nat.le_of_ble_eq_true rfl) ⟨Nat.le_of_ble_eq_true rfl, Nat.le_of_ble_eq_true rfl⟩ dL_law_1330 (fun r61 u61 hr61 h61 => ?_)
  obtain ⟨hS61, hBq61⟩ := h61
  have hQ61 : MI u61 u61 := MI.sf hS61
  have hW61 : WP u61 := WP.of hS61 hWm
  have hKq61 : u61 0 53 = Vm 0 53 := hBq61 0 53 rfl
  refine x_pop2 C.1 dL_law_1333 rfl ?_
  refine x_goto C.1 (tgt := 1495) dL_law_1334 (by decide) ?_
  exact kk u60 Jx Rx u61 Jm Rm ⟨hQ60, hJx, hRx, hQ61, hJm, hW61, (by omega)⟩
set_option maxHeartbeats 8000000 in
set_option maxRecDepth 100000 in
theorem law_case_27 {p : Program} {e : Env} {s : State} {m : MethodId} {below : List Frame} {meth : Method} {c : Code} (l : Launch) (D : va_G) (cy : Nat → ClassId) {b L : Nat} {xs : Nat → Int32} (aK aV : Nat → Nat) (C : xC2 p s m #[Value.ref b] meth c D (fun q => s.heap.size ≤ q) s.heap 4 code RL (xTY cy)) (hE : zE aK aV (fun q => s.heap.size ≤ q) s s.heap) (hr : meth.sig.returnType = ret) (hX : va_X b L xs s s.heap) (hbl : b < s.heap.size) (hbA : ¬ (fun q : Nat => s.heap.size ≤ q) b) (hL : L ≤ 3072) (ux um : Nat → Nat) (i : Int) (hi : 0 ≤ i ∧ i + 6 ≤ L) (Vx Jx : Nat → Nat → Int) (Rx : Nat → Nat → Nat) (Vm Jm : Nat → Nat → Int) (Rm : Nat → Nat → Nat) (hLI : LI Vx Jx Rx Vm Jm Rm) (kk : ∀ (Vx Jx : Nat → Nat → Int) (Rx : Nat → Nat → Nat) (Vm Jm : Nat → Nat → Int) (Rm : Nat → Nat → Nat), LI Vx Jx Rx Vm Jm Rm → xW p l e room_1 s m #[Value.ref b] below meth c D (fun q => s.heap.size ≤ q) s.heap 4 162 8366 (lw_Z below #[Value.ref b] s) (XW cy ux Vx Jx Rx ++ MW cy um Vm Jm Rm) 1495 [(3, vI i), (2, .ref (um 0)), (1, .ref (ux 0)), (0, .ref b)] []) : xW p l e room_1 s m #[Value.ref b] below meth c D (fun q => s.heap.size ≤ q) s.heap 4 162 8366 (lw_Z below #[Value.ref b] s) (XW cy ux Vx Jx Rx ++ MW cy um Vm Jm Rm) 1337 [(3, vI i), (2, .ref (um 0)), (1, .ref (ux 0)), (0, .ref b)] [] := by
  obtain ⟨hVx, hJx, hRx, hVm, hJm, hWm, hKk⟩ := hLI
  refine x_aload_n C.1 dL_law_1337 2 rfl ?_
  refine x_aload_n C.1 dL_law_1338 3 rfl ?_
  refine x_iload_n C.1 dL_law_1339 0 rfl ?_
  refine x_iconst C.1 (n := 1) dL_law_1340 ?_
  refine x_iadd C.1 (v := i + 1) (by omega) dL_law_1341 ?_
  refine x_sld C (b := b) (i := i + 1) hX hbl hbA (by omega) (by omega) dL_law_1342 ?_
  refine x_aload_n C.1 dL_law_1343 3 rfl ?_
  refine x_iload_n C.1 dL_law_1344 0 rfl ?_
  refine x_iconst C.1 (n := 2) dL_law_1345 ?_
  refine x_iadd C.1 (v := i + 2) (by omega) dL_law_1346 ?_
  refine x_sld C (b := b) (i := i + 2) hX hbl hbA (by omega) (by omega) dL_law_1347 ?_
  refine x_aload_n C.1 dL_law_1348 3 rfl ?_
  refine x_iload_n C.1 dL_law_1349 0 rfl ?_
  refine x_iconst C.1 (n := 3) dL_law_1350 ?_
  refine x_iadd C.1 (v := i + 3) (by omega) dL_law_1351 ?_
  refine x_sld C (b := b) (i := i + 3) hX hbl hbA (by omega) (by omega) dL_law_1352 ?_
  refine x_aload_n C.1 dL_law_1353 3 rfl ?_
  refine x_iload_n C.1 dL_law_1354 0 rfl ?_
  refine x_iconst C.1 (n := 4) dL_law_1355 ?_
  refine x_iadd C.1 (v := i + 4) (by omega) dL_law_1356 ?_
  refine x_sld C (b := b) (i := i + 4) hX hbl hbA (by omega) (by omega) dL_law_1357 ?_
  refine x_callVl C (As := [vI ((xs (i + 1).toNat).toInt), vI ((xs (i + 2).toNat).toInt), vI ((xs (i + 3).toNat).toInt), vI ((xs (i + 4).toNat).toInt)]) (rest := []) 0 law_x vc_X11 (s_can l D cy ux Vx Vx Jx Rx hVx hJx hRx ((xs (i + 1).toNat).toInt) (xi_r _) ((xs (i + 2).toNat).toInt) (xi_r _) ((xs (i + 3).toNat).toInt) (xi_r _) ((xs (i + 4).toNat).toInt) (xi_r _)) (l1 := []) (l2 := MW cy um Vm Jm Rm) rfl (w2 := fun u62 : xS => XW cy ux u62.1 u62.2.1 u62.2.2 ++ MW cy um Vm Jm Rm) (fun _ => rfl) rfl wm_yX11_can wn_X11 wl_L_132 wi_yX11_can we_yX11_can hd_yX11_can rfl ⟨Nat.le_of_ble_eq_true rfl, Nat.le_of_ble_eq_true rfl⟩ (Nat.le_of_ble_eq_true rfl) ⟨Nat.le_of_ble_eq_true rfl, Nat.le_of_ble_eq_true rfl⟩ dL_law_1358 (fun r62 u62 hr62 h62 => ?_)
  obtain ⟨hS62, hBq62⟩ := h62
  obtain ⟨V62, J62, R62⟩ := u62
  obtain ⟨hI62, hJ62, hR62⟩ := hS62
  dsimp only at hI62 hJ62 hR62 ⊢
  have hQ62 : XI V62 V62 := XI.toU hI62
  have hKq62 : V62 0 3 = Vx 0 3 := hBq62 0 3 (fun h => by omega)
  refine x_pop2 C.1 dL_law_1361 rfl ?_
  refine x_aload_n C.1 dL_law_1362 1 rfl ?_
  refine x_aload_n C.1 dL_law_1363 3 rfl ?_
  refine x_iload_n C.1 dL_law_1364 0 rfl ?_
  refine x_iconst C.1 (n := 1) dL_law_1365 ?_
  refine x_iadd C.1 (v := i + 1) (by omega) dL_law_1366 ?_
  refine x_sld C (b := b) (i := i + 1) hX hbl hbA (by omega) (by omega) dL_law_1367 ?_
  refine x_aload_n C.1 dL_law_1368 3 rfl ?_
  refine x_iload_n C.1 dL_law_1369 0 rfl ?_
  refine x_iconst C.1 (n := 2) dL_law_1370 ?_
  refine x_iadd C.1 (v := i + 2) (by omega) dL_law_1371 ?_
  refine x_sld C (b := b) (i := i + 2) hX hbl hbA (by omega) (by omega) dL_law_1372 ?_
  refine x_aload_n C.1 dL_law_1373 3 rfl ?_
  refine x_iload_n C.1 dL_law_1374 0 rfl ?_
  refine x_iconst C.1 (n := 3) dL_law_1375 ?_
  refine x_iadd C.1 (v := i + 3) (by omega) dL_law_1376 ?_
  refine x_sld C (b := b) (i := i + 3) hX hbl hbA (by omega) (by omega) dL_law_1377 ?_
  refine x_aload_n C.1 dL_law_1378 3 rfl ?_
  refine x_iload_n C.1 dL_law_1379 0 rfl ?_
  refine x_iconst C.1 (n := 4) dL_law_1380 ?_
  refine x_iadd C.1 (v := i + 4) (by omega) dL_law_1381 ?_
  refine x_sld C (b := b) (i := i + 4) hX hbl hbA (by omega) (by omega) dL_law_1382 ?_
  refine x_callVl C (As := [vI ((xs (i + 1).toNat).toInt), vI ((xs (i + 2).toNat).toInt), vI ((xs (i + 3).toNat).toInt), vI ((xs (i + 4).toNat).toInt)]) (rest := []) 129 law_m vc_X12 (m_can l D cy um Vm Vm Jm Rm hVm hJm trivial ((xs (i + 1).toNat).toInt) (xi_r _) ((xs (i + 2).toNat).toInt) (xi_r _) ((xs (i + 3).toNat).toInt) (xi_r _) ((xs (i + 4).toNat).toInt) (xi_r _)) (l1 := XW cy ux V62 J62 R62) (l2 := []) (List.append_nil _).symm (w2 := fun u63 : xS => XW cy ux V62 J62 R62 ++ MW cy um u63.1 u63.2.1 u63.2.2) (fun _ => List.append_nil _) rfl wm_yX12_can wn_X12 wl_L_135 wi_yX12_can we_yX12_can hd_yX12_can rfl ⟨Nat.le_of_ble_eq_true rfl, Nat.le_of_ble_eq_true rfl⟩ (Nat.le_of_ble_eq_true rfl) ⟨Nat.le_of_ble_eq_true rfl, Nat.le_of_ble_eq_true rfl⟩ dL_law_1383 (fun r63 u63 hr63 h63 => ?_)
  obtain ⟨hS63, hBq63⟩ := h63
  obtain ⟨V63, J63, R63⟩ := u63
  obtain ⟨hI63, hJ63, hR63⟩ := hS63
  dsimp only at hI63 hJ63 hR63 ⊢
  have hQ63 : MI V63 V63 := MI.sf hI63
  have hW63 : WP V63 := WP.of hI63 hWm
  have hKq63 : V63 0 53 = Vm 0 53 := hBq63 0 53 rfl
  refine x_pop2 C.1 dL_law_1386 rfl ?_
  refine x_goto C.1 (tgt := 1495) dL_law_1387 (by decide) ?_
  exact kk V62 J62 R62 V63 J63 R63 ⟨hQ62, hJ62, hR62, hQ63, hJ63, hW63, (by omega)⟩
set_option maxHeartbeats 8000000 in
set_option maxRecDepth 100000 in
theorem law_case_28 {p : Program} {e : Env} {s : State} {m : MethodId} {below : List Frame} {meth : Method} {c : Code} (l : Launch) (D : va_G) (cy : Nat → ClassId) {b L : Nat} {xs : Nat → Int32} (aK aV : Nat → Nat) (C : xC2 p s m #[Value.ref b] meth c D (fun q => s.heap.size ≤ q) s.heap 4 code RL (xTY cy)) (hE : zE aK aV (fun q => s.heap.size ≤ q) s s.heap) (hr : meth.sig.returnType = ret) (hX : va_X b L xs s s.heap) (hbl : b < s.heap.size) (hbA : ¬ (fun q : Nat => s.heap.size ≤ q) b) (hL : L ≤ 3072) (ux um : Nat → Nat) (i : Int) (hi : 0 ≤ i ∧ i + 6 ≤ L) (Vx Jx : Nat → Nat → Int) (Rx : Nat → Nat → Nat) (Vm Jm : Nat → Nat → Int) (Rm : Nat → Nat → Nat) (hLI : LI Vx Jx Rx Vm Jm Rm) (kk : ∀ (Vx Jx : Nat → Nat → Int) (Rx : Nat → Nat → Nat) (Vm Jm : Nat → Nat → Int) (Rm : Nat → Nat → Nat), LI Vx Jx Rx Vm Jm Rm → xW p l e room_1 s m #[Value.ref b] below meth c D (fun q => s.heap.size ≤ q) s.heap 4 162 8366 (lw_Z below #[Value.ref b] s) (XW cy ux Vx Jx Rx ++ MW cy um Vm Jm Rm) 1495 [(3, vI i), (2, .ref (um 0)), (1, .ref (ux 0)), (0, .ref b)] []) : xW p l e room_1 s m #[Value.ref b] below meth c D (fun q => s.heap.size ≤ q) s.heap 4 162 8366 (lw_Z below #[Value.ref b] s) (XW cy ux Vx Jx Rx ++ MW cy um Vm Jm Rm) 1390 [(3, vI i), (2, .ref (um 0)), (1, .ref (ux 0)), (0, .ref b)] [] := by
  obtain ⟨hVx, hJx, hRx, hVm, hJm, hWm, hKk⟩ := hLI
  refine x_aload_n C.1 dL_law_1390 2 rfl ?_
  refine x_aload_n C.1 dL_law_1391 3 rfl ?_
  refine x_iload_n C.1 dL_law_1392 0 rfl ?_
  refine x_iconst C.1 (n := 1) dL_law_1393 ?_
  refine x_iadd C.1 (v := i + 1) (by omega) dL_law_1394 ?_
  refine x_sld C (b := b) (i := i + 1) hX hbl hbA (by omega) (by omega) dL_law_1395 ?_
  refine x_callVi C (As := [vI ((xs (i + 1).toNat).toInt)]) (rest := []) 0 law_x vc_X11 (s_seed l D cy ux Vx Vx Jx Rx hVx hJx hRx ((xs (i + 1).toNat).toInt) (xi_r _)) (l1 := []) (l2 := MW cy um Vm Jm Rm) rfl (w2 := fun u64 : Nat → Nat → Int => XW cy ux u64 Jx Rx ++ MW cy um Vm Jm Rm) (fun _ => rfl) rfl wm_yX11_seed wn_X11 wl_L_136 wi_yX11_seed we_yX11_seed hd_yX11_seed rfl ⟨Nat.le_of_ble_eq_true rfl, Nat.le_of_ble_eq_true rfl⟩ (Nat.le_of_ble_eq_true rfl) ⟨Nat.le_of_ble_eq_true rfl, Nat.le_of_ble_eq_true rfl⟩ dL_law_1396 (fun r64 u64 hr64 h64 => ?_)
  obtain ⟨hS64, he64_0, hBq64⟩ := h64
  have hQ64 : XI u64 u64 := XI.toU hS64
  have hKq64 : u64 0 3 = Vx 0 3 := hBq64 0 3 (fun h => by omega)
  refine x_pop C.1 dL_law_1399 rfl ?_
  refine x_aload_n C.1 dL_law_1400 1 rfl ?_
  refine x_aload_n C.1 dL_law_1401 3 rfl ?_
  refine x_iload_n C.1 dL_law_1402 0 rfl ?_
  refine x_iconst C.1 (n := 1) dL_law_1403 ?_
  refine x_iadd C.1 (v := i + 1) (by omega) dL_law_1404 ?_
  refine x_sld C (b := b) (i := i + 1) hX hbl hbA (by omega) (by omega) dL_law_1405 ?_
  refine x_callVi C (As := [vI ((xs (i + 1).toNat).toInt)]) (rest := []) 129 law_m vc_X12 (m_seed l D cy um Vm Vm Jm Rm hVm hJm trivial ((xs (i + 1).toNat).toInt) (xi_r _)) (l1 := XW cy ux u64 Jx Rx) (l2 := []) (List.append_nil _).symm (w2 := fun u65 : Nat → Nat → Int => XW cy ux u64 Jx Rx ++ MW cy um u65 Jm Rm) (fun _ => List.append_nil _) rfl wm_yX12_seed wn_X12 wl_L_140 wi_yX12_seed we_yX12_seed hd_yX12_seed rfl ⟨Nat.le_of_ble_eq_true rfl, Nat.le_of_ble_eq_true rfl⟩ (Nat.le_of_ble_eq_true rfl) ⟨Nat.le_of_ble_eq_true rfl, Nat.le_of_ble_eq_true rfl⟩ dL_law_1406 (fun r65 u65 hr65 h65 => ?_)
  obtain ⟨hS65, he65_0, hBq65⟩ := h65
  have hQ65 : MI u65 u65 := MI.sf hS65
  have hW65 : WP u65 := WP.of hS65 hWm
  have hKq65 : u65 0 53 = Vm 0 53 := hBq65 0 53 rfl
  refine x_pop C.1 dL_law_1409 rfl ?_
  refine x_goto C.1 (tgt := 1495) dL_law_1410 (by decide) ?_
  exact kk u64 Jx Rx u65 Jm Rm ⟨hQ64, hJx, hRx, hQ65, hJm, hW65, (by omega)⟩
set_option maxHeartbeats 8000000 in
set_option maxRecDepth 100000 in
theorem law_case_29 {p : Program} {e : Env} {s : State} {m : MethodId} {below : List Frame} {meth : Method} {c : Code} (l : Launch) (D : va_G) (cy : Nat → ClassId) {b L : Nat} {xs : Nat → Int32} (aK aV : Nat → Nat) (C : xC2 p s m #[Value.ref b] meth c D (fun q => s.heap.size ≤ q) s.heap 4 code RL (xTY cy)) (hE : zE aK aV (fun q => s.heap.size ≤ q) s s.heap) (hr : meth.sig.returnType = ret) (hX : va_X b L xs s s.heap) (hbl : b < s.heap.size) (hbA : ¬ (fun q : Nat => s.heap.size ≤ q) b) (hL : L ≤ 3072) (ux um : Nat → Nat) (i : Int) (hi : 0 ≤ i ∧ i + 6 ≤ L) (Vx Jx : Nat → Nat → Int) (Rx : Nat → Nat → Nat) (Vm Jm : Nat → Nat → Int) (Rm : Nat → Nat → Nat) (hLI : LI Vx Jx Rx Vm Jm Rm) (kk : ∀ (Vx Jx : Nat → Nat → Int) (Rx : Nat → Nat → Nat) (Vm Jm : Nat → Nat → Int) (Rm : Nat → Nat → Nat), LI Vx Jx Rx Vm Jm Rm → xW p l e room_1 s m #[Value.ref b] below meth c D (fun q => s.heap.size ≤ q) s.heap 4 162 8366 (lw_Z below #[Value.ref b] s) (XW cy ux Vx Jx Rx ++ MW cy um Vm Jm Rm) 1495 [(3, vI i), (2, .ref (um 0)), (1, .ref (ux 0)), (0, .ref b)] []) : xW p l e room_1 s m #[Value.ref b] below meth c D (fun q => s.heap.size ≤ q) s.heap 4 162 8366 (lw_Z below #[Value.ref b] s) (XW cy ux Vx Jx Rx ++ MW cy um Vm Jm Rm) 1413 [(3, vI i), (2, .ref (um 0)), (1, .ref (ux 0)), (0, .ref b)] [] := by
  obtain ⟨hVx, hJx, hRx, hVm, hJm, hWm, hKk⟩ := hLI
  refine x_aload_n C.1 dL_law_1413 2 rfl ?_
  refine x_callVi C (As := []) (rest := []) 0 law_x vc_X11 (s_keep l D cy ux Vx Vx Jx Rx hVx hJx hRx ) (l1 := []) (l2 := MW cy um Vm Jm Rm) rfl (w2 := fun u66 : Nat → Nat → Int => XW cy ux u66 Jx Rx ++ MW cy um Vm Jm Rm) (fun _ => rfl) rfl wm_yX11_keep wn_X11 wl_L_141 wi_yX11_keep we_yX11_keep hd_yX11_keep rfl ⟨Nat.le_of_ble_eq_true rfl, Nat.le_of_ble_eq_true rfl⟩ (Nat.le_of_ble_eq_true rfl) ⟨Nat.le_of_ble_eq_true rfl, Nat.le_of_ble_eq_true rfl⟩ dL_law_1414 (fun r66 u66 hr66 h66 => ?_)
  obtain ⟨hS66, he66_0, hBq66⟩ := h66
  have hQ66 : XI u66 u66 := hS66
  refine x_pop C.1 dL_law_1417 rfl ?_
  refine x_aload_n C.1 dL_law_1418 1 rfl ?_
  refine x_callVi C (As := []) (rest := []) 129 law_m vc_X12 (m_keep l D cy um Vm Vm Jm Rm hVm hJm trivial ) (l1 := XW cy ux u66 Jx Rx) (l2 := []) (List.append_nil _).symm (w2 := fun u67 : Nat → Nat → Int => XW cy ux u66 Jx Rx ++ MW cy um u67 Jm Rm) (fun _ => List.append_nil _) rfl wm_yX12_keep wn_X12 wl_L_145 wi_yX12_keep we_yX12_keep hd_yX12_keep rfl ⟨Nat.le_of_ble_eq_true rfl, Nat.le_of_ble_eq_true rfl⟩ (Nat.le_of_ble_eq_true rfl) ⟨Nat.le_of_ble_eq_true rfl, Nat.le_of_ble_eq_true rfl⟩ dL_law_1419 (fun r67 u67 hr67 h67 => ?_)
  obtain ⟨hS67, he67_0, hBq67⟩ := h67
  have hQ67 : MI u67 u67 := MI.sf hS67
  have hW67 : WP u67 := WP.of hS67 (WP.k53 hWm)
  refine x_pop C.1 dL_law_1422 rfl ?_
  refine x_goto C.1 (tgt := 1495) dL_law_1423 (by decide) ?_
  exact kk u66 Jx Rx u67 Jm Rm ⟨hQ66, hJx, hRx, hQ67, hJm, hW67, (by omega)⟩
set_option maxHeartbeats 8000000 in
set_option maxRecDepth 100000 in
theorem law_case_30 {p : Program} {e : Env} {s : State} {m : MethodId} {below : List Frame} {meth : Method} {c : Code} (l : Launch) (D : va_G) (cy : Nat → ClassId) {b L : Nat} {xs : Nat → Int32} (aK aV : Nat → Nat) (C : xC2 p s m #[Value.ref b] meth c D (fun q => s.heap.size ≤ q) s.heap 4 code RL (xTY cy)) (hE : zE aK aV (fun q => s.heap.size ≤ q) s s.heap) (hr : meth.sig.returnType = ret) (hX : va_X b L xs s s.heap) (hbl : b < s.heap.size) (hbA : ¬ (fun q : Nat => s.heap.size ≤ q) b) (hL : L ≤ 3072) (ux um : Nat → Nat) (i : Int) (hi : 0 ≤ i ∧ i + 6 ≤ L) (Vx Jx : Nat → Nat → Int) (Rx : Nat → Nat → Nat) (Vm Jm : Nat → Nat → Int) (Rm : Nat → Nat → Nat) (hLI : LI Vx Jx Rx Vm Jm Rm) (kk : ∀ (Vx Jx : Nat → Nat → Int) (Rx : Nat → Nat → Nat) (Vm Jm : Nat → Nat → Int) (Rm : Nat → Nat → Nat), LI Vx Jx Rx Vm Jm Rm → xW p l e room_1 s m #[Value.ref b] below meth c D (fun q => s.heap.size ≤ q) s.heap 4 162 8366 (lw_Z below #[Value.ref b] s) (XW cy ux Vx Jx Rx ++ MW cy um Vm Jm Rm) 1495 [(3, vI i), (2, .ref (um 0)), (1, .ref (ux 0)), (0, .ref b)] []) : xW p l e room_1 s m #[Value.ref b] below meth c D (fun q => s.heap.size ≤ q) s.heap 4 162 8366 (lw_Z below #[Value.ref b] s) (XW cy ux Vx Jx Rx ++ MW cy um Vm Jm Rm) 1426 [(3, vI i), (2, .ref (um 0)), (1, .ref (ux 0)), (0, .ref b)] [] := by
  obtain ⟨hVx, hJx, hRx, hVm, hJm, hWm, hKk⟩ := hLI
  refine x_aload_n C.1 dL_law_1426 2 rfl ?_
  refine x_callVi C (As := []) (rest := []) 0 law_x vc_X11 (s_undo l D cy ux Vx Vx Jx Rx hVx hJx hRx ) (l1 := []) (l2 := MW cy um Vm Jm Rm) rfl (w2 := fun u68 : Nat → Nat → Int => XW cy ux u68 Jx Rx ++ MW cy um Vm Jm Rm) (fun _ => rfl) rfl wm_yX11_undo wn_X11 wl_L_146 wi_yX11_undo we_yX11_undo hd_yX11_undo rfl ⟨Nat.le_of_ble_eq_true rfl, Nat.le_of_ble_eq_true rfl⟩ (Nat.le_of_ble_eq_true rfl) ⟨Nat.le_of_ble_eq_true rfl, Nat.le_of_ble_eq_true rfl⟩ dL_law_1427 (fun r68 u68 hr68 h68 => ?_)
  obtain ⟨hS68, he68_0, hBq68⟩ := h68
  have hQ68 : XI u68 u68 := hS68
  have hKq68 : u68 0 3 = Vx 0 3 := hBq68 0 3 (fun h => by omega)
  refine x_aload_n C.1 dL_law_1430 1 rfl ?_
  refine x_callVi C (As := []) (rest := [vI r68]) 129 law_m vc_X12 (m_undo l D cy um Vm Vm Jm Rm hVm hJm trivial ) (l1 := XW cy ux u68 Jx Rx) (l2 := []) (List.append_nil _).symm (w2 := fun u69 : Nat → Nat → Int => XW cy ux u68 Jx Rx ++ MW cy um u69 Jm Rm) (fun _ => List.append_nil _) rfl wm_yX12_undo wn_X12 wl_L_150 wi_yX12_undo we_yX12_undo hd_yX12_undo rfl ⟨Nat.le_of_ble_eq_true rfl, Nat.le_of_ble_eq_true rfl⟩ (Nat.le_of_ble_eq_true rfl) ⟨Nat.le_of_ble_eq_true rfl, Nat.le_of_ble_eq_true rfl⟩ dL_law_1431 (fun r69 u69 hr69 h69 => ?_)
  obtain ⟨hS69, _, he69_0, hBq69⟩ := h69
  have hQ69 : MI u69 u69 := MI.sf hS69
  have hW69 : WP u69 := WP.of hS69 hWm
  have hKq69 : u69 0 53 = Vm 0 53 := hBq69 0 53 rfl
  refine x_icmp_eq_t C.1 (tgt := 1495) dL_law_1434 (by decide) hr68 hr69 (by omega) ?_
  exact kk u68 Jx Rx u69 Jm Rm ⟨hQ68, hJx, hRx, hQ69, hJm, hW69, (by omega)⟩
set_option maxHeartbeats 8000000 in
set_option maxRecDepth 100000 in
theorem law_case_31 {p : Program} {e : Env} {s : State} {m : MethodId} {below : List Frame} {meth : Method} {c : Code} (l : Launch) (D : va_G) (cy : Nat → ClassId) {b L : Nat} {xs : Nat → Int32} (aK aV : Nat → Nat) (C : xC2 p s m #[Value.ref b] meth c D (fun q => s.heap.size ≤ q) s.heap 4 code RL (xTY cy)) (hE : zE aK aV (fun q => s.heap.size ≤ q) s s.heap) (hr : meth.sig.returnType = ret) (hX : va_X b L xs s s.heap) (hbl : b < s.heap.size) (hbA : ¬ (fun q : Nat => s.heap.size ≤ q) b) (hL : L ≤ 3072) (ux um : Nat → Nat) (i : Int) (hi : 0 ≤ i ∧ i + 6 ≤ L) (Vx Jx : Nat → Nat → Int) (Rx : Nat → Nat → Nat) (Vm Jm : Nat → Nat → Int) (Rm : Nat → Nat → Nat) (hLI : LI Vx Jx Rx Vm Jm Rm) (kk : ∀ (Vx Jx : Nat → Nat → Int) (Rx : Nat → Nat → Nat) (Vm Jm : Nat → Nat → Int) (Rm : Nat → Nat → Nat), LI Vx Jx Rx Vm Jm Rm → xW p l e room_1 s m #[Value.ref b] below meth c D (fun q => s.heap.size ≤ q) s.heap 4 162 8366 (lw_Z below #[Value.ref b] s) (XW cy ux Vx Jx Rx ++ MW cy um Vm Jm Rm) 1495 [(3, vI i), (2, .ref (um 0)), (1, .ref (ux 0)), (0, .ref b)] []) : xW p l e room_1 s m #[Value.ref b] below meth c D (fun q => s.heap.size ≤ q) s.heap 4 162 8366 (lw_Z below #[Value.ref b] s) (XW cy ux Vx Jx Rx ++ MW cy um Vm Jm Rm) 1439 [(3, vI i), (2, .ref (um 0)), (1, .ref (ux 0)), (0, .ref b)] [] := by
  obtain ⟨hVx, hJx, hRx, hVm, hJm, hWm, hKk⟩ := hLI
  refine x_aload_n C.1 dL_law_1439 2 rfl ?_
  refine x_aload_n C.1 dL_law_1440 3 rfl ?_
  refine x_iload_n C.1 dL_law_1441 0 rfl ?_
  refine x_iconst C.1 (n := 1) dL_law_1442 ?_
  refine x_iadd C.1 (v := i + 1) (by omega) dL_law_1443 ?_
  refine x_sld C (b := b) (i := i + 1) hX hbl hbA (by omega) (by omega) dL_law_1444 ?_
  refine x_aload_n C.1 dL_law_1445 3 rfl ?_
  refine x_iload_n C.1 dL_law_1446 0 rfl ?_
  refine x_iconst C.1 (n := 2) dL_law_1447 ?_
  refine x_iadd C.1 (v := i + 2) (by omega) dL_law_1448 ?_
  refine x_sld C (b := b) (i := i + 2) hX hbl hbA (by omega) (by omega) dL_law_1449 ?_
  refine x_callVi C (As := [vI ((xs (i + 1).toNat).toInt), vI ((xs (i + 2).toNat).toInt)]) (rest := []) 0 law_x vc_X11 (s_check l D cy ux Vx Vx Jx Rx hVx hJx hRx ((xs (i + 1).toNat).toInt) (xi_r _) ((xs (i + 2).toNat).toInt) (xi_r _)) (l1 := []) (l2 := MW cy um Vm Jm Rm) rfl (w2 := fun u70 : Nat → Nat → Int => XW cy ux u70 Jx Rx ++ MW cy um Vm Jm Rm) (fun _ => rfl) rfl wm_yX11_check wn_X11 wl_L_151 wi_yX11_check we_yX11_check hd_yX11_check rfl ⟨Nat.le_of_ble_eq_true rfl, Nat.le_of_ble_eq_true rfl⟩ (Nat.le_of_ble_eq_true rfl) ⟨Nat.le_of_ble_eq_true rfl, Nat.le_of_ble_eq_true rfl⟩ dL_law_1450 (fun r70 u70 hr70 h70 => ?_)
  obtain ⟨hS70, hBq70⟩ := h70
  have hQ70 : XI u70 u70 := XI.toU hS70
  have hKq70 : u70 0 3 = Vx 0 3 := hBq70 0 3 (fun h => by omega)
  refine x_pop C.1 dL_law_1453 rfl ?_
  refine x_aload_n C.1 dL_law_1454 1 rfl ?_
  refine x_aload_n C.1 dL_law_1455 3 rfl ?_
  refine x_iload_n C.1 dL_law_1456 0 rfl ?_
  refine x_iconst C.1 (n := 1) dL_law_1457 ?_
  refine x_iadd C.1 (v := i + 1) (by omega) dL_law_1458 ?_
  refine x_sld C (b := b) (i := i + 1) hX hbl hbA (by omega) (by omega) dL_law_1459 ?_
  refine x_aload_n C.1 dL_law_1460 3 rfl ?_
  refine x_iload_n C.1 dL_law_1461 0 rfl ?_
  refine x_iconst C.1 (n := 2) dL_law_1462 ?_
  refine x_iadd C.1 (v := i + 2) (by omega) dL_law_1463 ?_
  refine x_sld C (b := b) (i := i + 2) hX hbl hbA (by omega) (by omega) dL_law_1464 ?_
  refine x_callVi C (As := [vI ((xs (i + 1).toNat).toInt), vI ((xs (i + 2).toNat).toInt)]) (rest := []) 129 law_m vc_X12 (m_check l D cy um Vm Vm Jm Rm hVm hJm trivial ((xs (i + 1).toNat).toInt) (xi_r _) ((xs (i + 2).toNat).toInt) (xi_r _)) (l1 := XW cy ux u70 Jx Rx) (l2 := []) (List.append_nil _).symm (w2 := fun u71 : Nat → Nat → Int => XW cy ux u70 Jx Rx ++ MW cy um u71 Jm Rm) (fun _ => List.append_nil _) rfl wm_yX12_check wn_X12 wl_L_154 wi_yX12_check we_yX12_check hd_yX12_check rfl ⟨Nat.le_of_ble_eq_true rfl, Nat.le_of_ble_eq_true rfl⟩ (Nat.le_of_ble_eq_true rfl) ⟨Nat.le_of_ble_eq_true rfl, Nat.le_of_ble_eq_true rfl⟩ dL_law_1465 (fun r71 u71 hr71 h71 => ?_)
  obtain ⟨hS71, hBq71⟩ := h71
  have hQ71 : MI u71 u71 := MI.sf hS71
  have hW71 : WP u71 := WP.of hS71 hWm
  have hKq71 : u71 0 53 = Vm 0 53 := hBq71 0 53 rfl
  refine x_pop C.1 dL_law_1468 rfl ?_
  refine x_goto C.1 (tgt := 1495) dL_law_1469 (by decide) ?_
  exact kk u70 Jx Rx u71 Jm Rm ⟨hQ70, hJx, hRx, hQ71, hJm, hW71, (by omega)⟩
set_option maxHeartbeats 8000000 in
set_option maxRecDepth 100000 in
theorem law_case_32 {p : Program} {e : Env} {s : State} {m : MethodId} {below : List Frame} {meth : Method} {c : Code} (l : Launch) (D : va_G) (cy : Nat → ClassId) {b L : Nat} {xs : Nat → Int32} (aK aV : Nat → Nat) (C : xC2 p s m #[Value.ref b] meth c D (fun q => s.heap.size ≤ q) s.heap 4 code RL (xTY cy)) (hE : zE aK aV (fun q => s.heap.size ≤ q) s s.heap) (hr : meth.sig.returnType = ret) (hX : va_X b L xs s s.heap) (hbl : b < s.heap.size) (hbA : ¬ (fun q : Nat => s.heap.size ≤ q) b) (hL : L ≤ 3072) (ux um : Nat → Nat) (i : Int) (hi : 0 ≤ i ∧ i + 6 ≤ L) (Vx Jx : Nat → Nat → Int) (Rx : Nat → Nat → Nat) (Vm Jm : Nat → Nat → Int) (Rm : Nat → Nat → Nat) (hLI : LI Vx Jx Rx Vm Jm Rm) (kk : ∀ (Vx Jx : Nat → Nat → Int) (Rx : Nat → Nat → Nat) (Vm Jm : Nat → Nat → Int) (Rm : Nat → Nat → Nat), LI Vx Jx Rx Vm Jm Rm → xW p l e room_1 s m #[Value.ref b] below meth c D (fun q => s.heap.size ≤ q) s.heap 4 162 8366 (lw_Z below #[Value.ref b] s) (XW cy ux Vx Jx Rx ++ MW cy um Vm Jm Rm) 1495 [(3, vI i), (2, .ref (um 0)), (1, .ref (ux 0)), (0, .ref b)] []) : xW p l e room_1 s m #[Value.ref b] below meth c D (fun q => s.heap.size ≤ q) s.heap 4 162 8366 (lw_Z below #[Value.ref b] s) (XW cy ux Vx Jx Rx ++ MW cy um Vm Jm Rm) 1472 [(3, vI i), (2, .ref (um 0)), (1, .ref (ux 0)), (0, .ref b)] [] := by
  obtain ⟨hVx, hJx, hRx, hVm, hJm, hWm, hKk⟩ := hLI
  refine x_aload_n C.1 dL_law_1472 2 rfl ?_
  refine x_aload_n C.1 dL_law_1473 3 rfl ?_
  refine x_iload_n C.1 dL_law_1474 0 rfl ?_
  refine x_iconst C.1 (n := 1) dL_law_1475 ?_
  refine x_iadd C.1 (v := i + 1) (by omega) dL_law_1476 ?_
  refine x_sld C (b := b) (i := i + 1) hX hbl hbA (by omega) (by omega) dL_law_1477 ?_
  refine x_callVi C (As := [vI ((xs (i + 1).toNat).toInt)]) (rest := []) 0 law_x vc_X11 (s_count l D cy ux Vx Vx Jx Rx hVx hJx hRx ((xs (i + 1).toNat).toInt) (xi_r _)) (l1 := []) (l2 := MW cy um Vm Jm Rm) rfl (w2 := fun u72 : Unit => XW cy ux Vx Jx Rx ++ MW cy um Vm Jm Rm) (fun _ => rfl) rfl wm_yX11_count wn_X11 wl_L_155 wi_yX11_count we_yX11_count hd_yX11_count rfl ⟨Nat.le_of_ble_eq_true rfl, Nat.le_of_ble_eq_true rfl⟩ (Nat.le_of_ble_eq_true rfl) ⟨Nat.le_of_ble_eq_true rfl, Nat.le_of_ble_eq_true rfl⟩ dL_law_1478 (fun r72 u72 hr72 h72 => ?_)
  refine x_pop C.1 dL_law_1481 rfl ?_
  refine x_aload_n C.1 dL_law_1482 1 rfl ?_
  refine x_aload_n C.1 dL_law_1483 3 rfl ?_
  refine x_iload_n C.1 dL_law_1484 0 rfl ?_
  refine x_iconst C.1 (n := 1) dL_law_1485 ?_
  refine x_iadd C.1 (v := i + 1) (by omega) dL_law_1486 ?_
  refine x_sld C (b := b) (i := i + 1) hX hbl hbA (by omega) (by omega) dL_law_1487 ?_
  refine x_callVi C (As := [vI ((xs (i + 1).toNat).toInt)]) (rest := []) 129 law_m vc_X12 (m_count l D cy um Vm Vm Jm Rm hVm hJm trivial ((xs (i + 1).toNat).toInt) (xi_r _)) (l1 := XW cy ux Vx Jx Rx) (l2 := []) (List.append_nil _).symm (w2 := fun u73 : Unit => XW cy ux Vx Jx Rx ++ MW cy um Vm Jm Rm) (fun _ => List.append_nil _) rfl wm_yX12_count wn_X12 wl_L_158 wi_yX12_count we_yX12_count hd_yX12_count rfl ⟨Nat.le_of_ble_eq_true rfl, Nat.le_of_ble_eq_true rfl⟩ (Nat.le_of_ble_eq_true rfl) ⟨Nat.le_of_ble_eq_true rfl, Nat.le_of_ble_eq_true rfl⟩ dL_law_1488 (fun r73 u73 hr73 h73 => ?_)
  refine x_pop C.1 dL_law_1491 rfl ?_
  refine x_goto C.1 (tgt := 1495) dL_law_1492 (by decide) ?_
  exact kk Vx Jx Rx Vm Jm Rm ⟨hVx, hJx, hRx, hVm, hJm, hWm, (by omega)⟩
