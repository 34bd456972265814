section
set_option maxHeartbeats 8000000 in
set_option maxRecDepth 100000 in
theorem law_case_16 {p : Program} {e : Env} {s : State} {m : MethodId} {below : List Frame} {meth : Method} {c : Code} (l : Launch) (D : va_G) (cy : Nat → ClassId) {b L : Nat} {xs : Nat → Int32} (aK aV : Nat → Nat) (C : xC2 p s m #[Value.ref b] meth c D (fun q => s.heap.size ≤ q) s.heap 4 code RL (xTY cy)) (hE : zE aK aV (fun q => s.heap.size ≤ q) s s.heap) (hr : meth.sig.returnType = ret) (hX : va_X b L xs s s.heap) (hbl : b < s.heap.size) (hbA : ¬ (fun q : Nat => s.heap.size ≤ q) b) (hL : L ≤ 3072) (ux um : Nat → Nat) (i : Int) (hi : 0 ≤ i ∧ i + 6 ≤ L) (Vx Jx : Nat → Nat → Int) (Rx : Nat → Nat → Nat) (Vm Jm : Nat → Nat → Int) (Rm : Nat → Nat → Nat) (hLI : LI Vx Jx Rx Vm Jm Rm) (kk : ∀ (Vx Jx : Nat → Nat → Int) (Rx : Nat → Nat → Nat) (Vm Jm : Nat → Nat → Int) (Rm : Nat → Nat → Nat), LI Vx Jx Rx Vm Jm Rm → xW p l e room_1 s m #[Value.ref b] below meth c D (fun q => s.heap.size ≤ q) s.heap 4 162 8366 (lw_Z below #[Value.ref b] s) (XW cy ux Vx Jx Rx ++ MW cy um Vm Jm Rm) 1495 [(3, vI i), (2, .ref (um 0)), (1, .ref (ux 0)), (0, .ref b)] []) : xW p l e room_1 s m #[Value.ref b] below meth c D (fun q => s.heap.size ≤ q) s.heap 4 162 8366 (lw_Z below #[Value.ref b] s) (XW cy ux Vx Jx Rx ++ MW cy um Vm Jm Rm) 864 [(3, vI i), (2, .ref (um 0)), (1, .ref (ux 0)), (0, .ref b)] [] := by
  obtain ⟨hVx, hJx, hRx, hVm, hJm, hWm, hKk⟩ := hLI
  refine x_aload_n C.1 dL_law_864 2 rfl ?_
  refine x_aload_n C.1 dL_law_865 3 rfl ?_
  refine x_iload_n C.1 dL_law_866 0 rfl ?_
  refine x_iconst C.1 (n := 1) dL_law_867 ?_
  refine x_iadd C.1 (v := i + 1) (by omega) dL_law_868 ?_
  refine x_sld C (b := b) (i := i + 1) hX hbl hbA (by omega) (by omega) dL_law_869 ?_
  refine x_aload_n C.1 dL_law_870 3 rfl ?_
  refine x_iload_n C.1 dL_law_871 0 rfl ?_
  refine x_iconst C.1 (n := 2) dL_law_872 ?_
  refine x_iadd C.1 (v := i + 2) (by omega) dL_law_873 ?_
  refine x_sld C (b := b) (i := i + 2) hX hbl hbA (by omega) (by omega) dL_law_874 ?_
  refine x_aload_n C.1 dL_law_875 3 rfl ?_
  refine x_iload_n C.1 dL_law_876 0 rfl ?_
  refine x_iconst C.1 (n := 3) dL_law_877 ?_
  refine x_iadd C.1 (v := i + 3) (by omega) dL_law_878 ?_
  refine x_sld C (b := b) (i := i + 3) hX hbl hbA (by omega) (by omega) dL_law_879 ?_
  refine x_aload_n C.1 dL_law_880 3 rfl ?_
  refine x_iload_n C.1 dL_law_881 0 rfl ?_
  refine x_iconst C.1 (n := 4) dL_law_882 ?_
  refine x_iadd C.1 (v := i + 4) (by omega) dL_law_883 ?_
  refine x_sld C (b := b) (i := i + 4) hX hbl hbA (by omega) (by omega) dL_law_884 ?_
  refine x_aload_n C.1 dL_law_885 3 rfl ?_
  refine x_iload_n C.1 dL_law_886 0 rfl ?_
  refine x_iconst C.1 (n := 5) dL_law_887 ?_
  refine x_iadd C.1 (v := i + 5) (by omega) dL_law_888 ?_
  refine x_sld C (b := b) (i := i + 5) hX hbl hbA (by omega) (by omega) dL_law_889 ?_
  refine x_callVl C (As := [vI ((xs (i + 1).toNat).toInt), vI ((xs (i + 2).toNat).toInt), vI ((xs (i + 3).toNat).toInt), vI ((xs (i + 4).toNat).toInt), vI ((xs (i + 5).toNat).toInt)]) (rest := []) 0 law_x vc_X11 (s_ruleFor l D cy ux Vx Vx Jx Rx hVx hJx hRx ((xs (i + 1).toNat).toInt) (xi_r _) ((xs (i + 2).toNat).toInt) (xi_r _) ((xs (i + 3).toNat).toInt) (xi_r _) ((xs (i + 4).toNat).toInt) (xi_r _) ((xs (i + 5).toNat).toInt) (xi_r _)) (l1 := []) (l2 := MW cy um Vm Jm Rm) rfl (w2 := fun u38 : xS => XW cy ux u38.1 u38.2.1 u38.2.2 ++ MW cy um Vm Jm Rm) (fun _ => rfl) rfl wm_yX11_ruleFor wn_X11 wl_L_85 wi_yX11_ruleFor we_yX11_ruleFor hd_yX11_ruleFor rfl ⟨Nat.le_of_ble_eq_true rfl, Nat.le_of_ble_eq_true rfl⟩ (Nat.le_of_ble_eq_true rfl) ⟨Nat.le_of_ble_eq_true rfl, Nat.le_of_ble_eq_true rfl⟩ dL_law_890 (fun r38 u38 hr38 h38 => ?_)
  obtain ⟨hS38, hBq38, hRq38, hFq38⟩ := h38
  obtain ⟨V38, J38, R38⟩ := u38
  obtain ⟨hI38, hJ38, hR38⟩ := hS38
  dsimp only at hI38 hJ38 hR38 ⊢
  have hQ38 : XI V38 V38 := XI.toU hI38
  refine x_pop2 C.1 dL_law_893 rfl ?_
  refine x_aload_n C.1 dL_law_894 1 rfl ?_
  refine x_aload_n C.1 dL_law_895 3 rfl ?_
  refine x_iload_n C.1 dL_law_896 0 rfl ?_
  refine x_iconst C.1 (n := 1) dL_law_897 ?_
  refine x_iadd C.1 (v := i + 1) (by omega) dL_law_898 ?_
  refine x_sld C (b := b) (i := i + 1) hX hbl hbA (by omega) (by omega) dL_law_899 ?_
  refine x_aload_n C.1 dL_law_900 3 rfl ?_
  refine x_iload_n C.1 dL_law_901 0 rfl ?_
  refine x_iconst C.1 (n := 2) dL_law_902 ?_
  refine x_iadd C.1 (v := i + 2) (by omega) dL_law_903 ?_
  refine x_sld C (b := b) (i := i + 2) hX hbl hbA (by omega) (by omega) dL_law_904 ?_
  refine x_aload_n C.1 dL_law_905 3 rfl ?_
  refine x_iload_n C.1 dL_law_906 0 rfl ?_
  refine x_iconst C.1 (n := 3) dL_law_907 ?_
  refine x_iadd C.1 (v := i + 3) (by omega) dL_law_908 ?_
  refine x_sld C (b := b) (i := i + 3) hX hbl hbA (by omega) (by omega) dL_law_909 ?_
  refine x_aload_n C.1 dL_law_910 3 rfl ?_
  refine x_iload_n C.1 dL_law_911 0 rfl ?_
  refine x_iconst C.1 (n := 4) dL_law_912 ?_
  refine x_iadd C.1 (v := i + 4) (by omega) dL_law_913 ?_
  refine x_sld C (b := b) (i := i + 4) hX hbl hbA (by omega) (by omega) dL_law_914 ?_
  refine x_aload_n C.1 dL_law_915 3 rfl ?_
  refine x_iload_n C.1 dL_law_916 0 rfl ?_
  refine x_iconst C.1 (n := 5) dL_law_917 ?_
  refine x_iadd C.1 (v := i + 5) (by omega) dL_law_918 ?_
  refine x_sld C (b := b) (i := i + 5) hX hbl hbA (by omega) (by omega) dL_law_919 ?_
  refine x_callVl C (As := [vI ((xs (i + 1).toNat).toInt), vI ((xs (i + 2).toNat).toInt), vI ((xs (i + 3).toNat).toInt), vI ((xs (i + 4).toNat).toInt), vI ((xs (i + 5).toNat).toInt)]) (rest := []) 129 law_m vc_X12 (m_ruleFor l D cy um Vm Vm Jm Rm hVm hJm trivial ((xs (i + 1).toNat).toInt) (xi_r _) ((xs (i + 2).toNat).toInt) (xi_r _) ((xs (i + 3).toNat).toInt) (xi_r _) ((xs (i + 4).toNat).toInt) (xi_r _) ((xs (i + 5).toNat).toInt) (xi_r _) hWm) (l1 := XW cy ux V38 J38 R38) (l2 := []) (List.append_nil _).symm (w2 := fun u39 : xS => XW cy ux V38 J38 R38 ++ MW cy um u39.1 u39.2.1 u39.2.2) (fun _ => List.append_nil _) rfl wm_yX12_ruleFor wn_X12 wl_L_89 wi_yX12_ruleFor we_yX12_ruleFor hd_yX12_ruleFor rfl ⟨Nat.le_of_ble_eq_true rfl, Nat.le_of_ble_eq_true rfl⟩ (Nat.le_of_ble_eq_true rfl) ⟨Nat.le_of_ble_eq_true rfl, Nat.le_of_ble_eq_true rfl⟩ dL_law_920 (fun r39 u39 hr39 h39 => ?_)
  obtain ⟨hS39, hBq39, hFq39⟩ := h39
  obtain ⟨V39, J39, R39⟩ := u39
  obtain ⟨hI39, hJ39, hR39⟩ := hS39
  dsimp only at hI39 hJ39 hR39 ⊢
  have hQ39 : MI V39 V39 := MI.sf hI39
  have hW39 : WP V39 := WP.of hI39 hWm
  have hKq39 : WR R38 V38 V39 := (hKk.keepT (hKk.tp (hBq38 58 1 (by omega)) (funext fun k => hBq38 59 k (by omega)) (hBq39.fl 4 (by decide)) (hBq39.rw 4 (by decide) (by decide))) (fun i hi => funext fun k => hBq38 i k (by omega)) (hBq38 0 3 (by omega)) (fun k _ => k_ruleFor hFq39 k) (hBq39.rw 3 (by decide) (by decide)) (hBq39.kt (by decide)) (hBq39.fl 53 (by decide))).rk hRq38
  refine x_pop2 C.1 dL_law_923 rfl ?_
  refine x_goto C.1 (tgt := 1495) dL_law_924 (by decide) ?_
  exact kk V38 J38 R38 V39 J39 R39 ⟨hQ38, hJ38, hR38, hQ39, hJ39, hW39, hKq39⟩
set_option maxHeartbeats 8000000 in
set_option maxRecDepth 100000 in
theorem law_case_17 {p : Program} {e : Env} {s : State} {m : MethodId} {below : List Frame} {meth : Method} {c : Code} (l : Launch) (D : va_G) (cy : Nat → ClassId) {b L : Nat} {xs : Nat → Int32} (aK aV : Nat → Nat) (C : xC2 p s m #[Value.ref b] meth c D (fun q => s.heap.size ≤ q) s.heap 4 code RL (xTY cy)) (hE : zE aK aV (fun q => s.heap.size ≤ q) s s.heap) (hr : meth.sig.returnType = ret) (hX : va_X b L xs s s.heap) (hbl : b < s.heap.size) (hbA : ¬ (fun q : Nat => s.heap.size ≤ q) b) (hL : L ≤ 3072) (ux um : Nat → Nat) (i : Int) (hi : 0 ≤ i ∧ i + 6 ≤ L) (Vx Jx : Nat → Nat → Int) (Rx : Nat → Nat → Nat) (Vm Jm : Nat → Nat → Int) (Rm : Nat → Nat → Nat) (hLI : LI Vx Jx Rx Vm Jm Rm) (kk : ∀ (Vx Jx : Nat → Nat → Int) (Rx : Nat → Nat → Nat) (Vm Jm : Nat → Nat → Int) (Rm : Nat → Nat → Nat), LI Vx Jx Rx Vm Jm Rm → xW p l e room_1 s m #[Value.ref b] below meth c D (fun q => s.heap.size ≤ q) s.heap 4 162 8366 (lw_Z below #[Value.ref b] s) (XW cy ux Vx Jx Rx ++ MW cy um Vm Jm Rm) 1495 [(3, vI i), (2, .ref (um 0)), (1, .ref (ux 0)), (0, .ref b)] []) : xW p l e room_1 s m #[Value.ref b] below meth c D (fun q => s.heap.size ≤ q) s.heap 4 162 8366 (lw_Z below #[Value.ref b] s) (XW cy ux Vx Jx Rx ++ MW cy um Vm Jm Rm) 927 [(3, vI i), (2, .ref (um 0)), (1, .ref (ux 0)), (0, .ref b)] [] := by
  obtain ⟨hVx, hJx, hRx, hVm, hJm, hWm, hKk⟩ := hLI
  refine x_aload_n C.1 dL_law_927 2 rfl ?_
  refine x_aload_n C.1 dL_law_928 3 rfl ?_
  refine x_iload_n C.1 dL_law_929 0 rfl ?_
  refine x_iconst C.1 (n := 1) dL_law_930 ?_
  refine x_iadd C.1 (v := i + 1) (by omega) dL_law_931 ?_
  refine x_sld C (b := b) (i := i + 1) hX hbl hbA (by omega) (by omega) dL_law_932 ?_
  refine x_aload_n C.1 dL_law_933 3 rfl ?_
  refine x_iload_n C.1 dL_law_934 0 rfl ?_
  refine x_iconst C.1 (n := 2) dL_law_935 ?_
  refine x_iadd C.1 (v := i + 2) (by omega) dL_law_936 ?_
  refine x_sld C (b := b) (i := i + 2) hX hbl hbA (by omega) (by omega) dL_law_937 ?_
  refine x_callVi C (As := [vI ((xs (i + 1).toNat).toInt), vI ((xs (i + 2).toNat).toInt)]) (rest := []) 0 law_x vc_X11 (s_lasts l D cy ux Vx Vx Jx Rx hVx hJx hRx ((xs (i + 1).toNat).toInt) (xi_r _) ((xs (i + 2).toNat).toInt) (xi_r _)) (l1 := []) (l2 := MW cy um Vm Jm Rm) rfl (w2 := fun u40 : Nat → Nat → Int => XW cy ux u40 Jx Rx ++ MW cy um Vm Jm Rm) (fun _ => rfl) rfl wm_yX11_lasts wn_X11 wl_L_90 wi_yX11_lasts we_yX11_lasts hd_yX11_lasts rfl ⟨Nat.le_of_ble_eq_true rfl, Nat.le_of_ble_eq_true rfl⟩ (Nat.le_of_ble_eq_true rfl) ⟨Nat.le_of_ble_eq_true rfl, Nat.le_of_ble_eq_true rfl⟩ dL_law_938 (fun r40 u40 hr40 h40 => ?_)
  obtain ⟨hS40, hBq40, hFq40⟩ := h40
  have hQ40 : XI u40 u40 := XI.toU hS40
  refine x_pop C.1 dL_law_941 rfl ?_
  refine x_aload_n C.1 dL_law_942 1 rfl ?_
  refine x_aload_n C.1 dL_law_943 3 rfl ?_
  refine x_iload_n C.1 dL_law_944 0 rfl ?_
  refine x_iconst C.1 (n := 1) dL_law_945 ?_
  refine x_iadd C.1 (v := i + 1) (by omega) dL_law_946 ?_
  refine x_sld C (b := b) (i := i + 1) hX hbl hbA (by omega) (by omega) dL_law_947 ?_
  refine x_aload_n C.1 dL_law_948 3 rfl ?_
  refine x_iload_n C.1 dL_law_949 0 rfl ?_
  refine x_iconst C.1 (n := 2) dL_law_950 ?_
  refine x_iadd C.1 (v := i + 2) (by omega) dL_law_951 ?_
  refine x_sld C (b := b) (i := i + 2) hX hbl hbA (by omega) (by omega) dL_law_952 ?_
  refine x_callVi C (As := [vI ((xs (i + 1).toNat).toInt), vI ((xs (i + 2).toNat).toInt)]) (rest := []) 129 law_m vc_X12 (m_lasts l D cy um Vm Vm Jm Rm hVm hJm trivial ((xs (i + 1).toNat).toInt) (xi_r _) ((xs (i + 2).toNat).toInt) (xi_r _) hWm) (l1 := XW cy ux u40 Jx Rx) (l2 := []) (List.append_nil _).symm (w2 := fun u41 : Nat → Nat → Int => XW cy ux u40 Jx Rx ++ MW cy um u41 Jm Rm) (fun _ => List.append_nil _) rfl wm_yX12_lasts wn_X12 wl_L_93 wi_yX12_lasts we_yX12_lasts hd_yX12_lasts rfl ⟨Nat.le_of_ble_eq_true rfl, Nat.le_of_ble_eq_true rfl⟩ (Nat.le_of_ble_eq_true rfl) ⟨Nat.le_of_ble_eq_true rfl, Nat.le_of_ble_eq_true rfl⟩ dL_law_953 (fun r41 u41 hr41 h41 => ?_)
  obtain ⟨hS41, hBq41, hFq41⟩ := h41
  have hQ41 : MI u41 u41 := MI.sf hS41
  have hW41 : WP u41 := WP.of hS41 hWm
  have hKq41 : WR Rx u40 u41 := (hKk.keepT (hKk.tp (hBq40 58 1 (by omega)) (funext fun k => hBq40 59 k (by omega)) (hBq41.fl 4 (by decide)) (hBq41.rw 4 (by decide) (by decide))) (fun i hi => funext fun k => hBq40 i k (by omega)) (hBq40 0 3 (by omega)) (k_lasts hFq41) (hBq41.rw 3 (by decide) (by decide)) (hBq41.kt (by decide)) (hBq41.fl 53 (by decide)))
  refine x_pop C.1 dL_law_956 rfl ?_
  refine x_goto C.1 (tgt := 1495) dL_law_957 (by decide) ?_
  exact kk u40 Jx Rx u41 Jm Rm ⟨hQ40, hJx, hRx, hQ41, hJm, hW41, hKq41⟩
set_option maxHeartbeats 8000000 in
set_option maxRecDepth 100000 in
theorem law_case_18 {p : Program} {e : Env} {s : State} {m : MethodId} {below : List Frame} {meth : Method} {c : Code} (l : Launch) (D : va_G) (cy : Nat → ClassId) {b L : Nat} {xs : Nat → Int32} (aK aV : Nat → Nat) (C : xC2 p s m #[Value.ref b] meth c D (fun q => s.heap.size ≤ q) s.heap 4 code RL (xTY cy)) (hE : zE aK aV (fun q => s.heap.size ≤ q) s s.heap) (hr : meth.sig.returnType = ret) (hX : va_X b L xs s s.heap) (hbl : b < s.heap.size) (hbA : ¬ (fun q : Nat => s.heap.size ≤ q) b) (hL : L ≤ 3072) (ux um : Nat → Nat) (i : Int) (hi : 0 ≤ i ∧ i + 6 ≤ L) (Vx Jx : Nat → Nat → Int) (Rx : Nat → Nat → Nat) (Vm Jm : Nat → Nat → Int) (Rm : Nat → Nat → Nat) (hLI : LI Vx Jx Rx Vm Jm Rm) (kk : ∀ (Vx Jx : Nat → Nat → Int) (Rx : Nat → Nat → Nat) (Vm Jm : Nat → Nat → Int) (Rm : Nat → Nat → Nat), LI Vx Jx Rx Vm Jm Rm → xW p l e room_1 s m #[Value.ref b] below meth c D (fun q => s.heap.size ≤ q) s.heap 4 162 8366 (lw_Z below #[Value.ref b] s) (XW cy ux Vx Jx Rx ++ MW cy um Vm Jm Rm) 1495 [(3, vI i), (2, .ref (um 0)), (1, .ref (ux 0)), (0, .ref b)] []) : xW p l e room_1 s m #[Value.ref b] below meth c D (fun q => s.heap.size ≤ q) s.heap 4 162 8366 (lw_Z below #[Value.ref b] s) (XW cy ux Vx Jx Rx ++ MW cy um Vm Jm Rm) 960 [(3, vI i), (2, .ref (um 0)), (1, .ref (ux 0)), (0, .ref b)] [] := by
  obtain ⟨hVx, hJx, hRx, hVm, hJm, hWm, hKk⟩ := hLI
  refine x_aload_n C.1 dL_law_960 2 rfl ?_
  refine x_aload_n C.1 dL_law_961 3 rfl ?_
  refine x_iload_n C.1 dL_law_962 0 rfl ?_
  refine x_iconst C.1 (n := 1) dL_law_963 ?_
  refine x_iadd C.1 (v := i + 1) (by omega) dL_law_964 ?_
  refine x_sld C (b := b) (i := i + 1) hX hbl hbA (by omega) (by omega) dL_law_965 ?_
  refine x_aload_n C.1 dL_law_966 3 rfl ?_
  refine x_iload_n C.1 dL_law_967 0 rfl ?_
  refine x_iconst C.1 (n := 2) dL_law_968 ?_
  refine x_iadd C.1 (v := i + 2) (by omega) dL_law_969 ?_
  refine x_sld C (b := b) (i := i + 2) hX hbl hbA (by omega) (by omega) dL_law_970 ?_
  refine x_callVi C (As := [vI ((xs (i + 1).toNat).toInt), vI ((xs (i + 2).toNat).toInt)]) (rest := []) 0 law_x vc_X11 (s_needs l D cy ux Vx Vx Jx Rx hVx hJx hRx ((xs (i + 1).toNat).toInt) (xi_r _) ((xs (i + 2).toNat).toInt) (xi_r _)) (l1 := []) (l2 := MW cy um Vm Jm Rm) rfl (w2 := fun u42 : Nat → Nat → Int => XW cy ux u42 Jx Rx ++ MW cy um Vm Jm Rm) (fun _ => rfl) rfl wm_yX11_needs wn_X11 wl_L_94 wi_yX11_needs we_yX11_needs hd_yX11_needs rfl ⟨Nat.le_of_ble_eq_true rfl, Nat.le_of_ble_eq_true rfl⟩ (Nat.le_of_ble_eq_true rfl) ⟨Nat.le_of_ble_eq_true rfl, Nat.le_of_ble_eq_true rfl⟩ dL_law_971 (fun r42 u42 hr42 h42 => ?_)
  obtain ⟨hS42, hBq42, hFq42⟩ := h42
  have hQ42 : XI u42 u42 := XI.toU hS42
  refine x_pop C.1 dL_law_974 rfl ?_
  refine x_aload_n C.1 dL_law_975 1 rfl ?_
  refine x_aload_n C.1 dL_law_976 3 rfl ?_
  refine x_iload_n C.1 dL_law_977 0 rfl ?_
  refine x_iconst C.1 (n := 1) dL_law_978 ?_
  refine x_iadd C.1 (v := i + 1) (by omega) dL_law_979 ?_
  refine x_sld C (b := b) (i := i + 1) hX hbl hbA (by omega) (by omega) dL_law_980 ?_
  refine x_aload_n C.1 dL_law_981 3 rfl ?_
  refine x_iload_n C.1 dL_law_982 0 rfl ?_
  refine x_iconst C.1 (n := 2) dL_law_983 ?_
  refine x_iadd C.1 (v := i + 2) (by omega) dL_law_984 ?_
  refine x_sld C (b := b) (i := i + 2) hX hbl hbA (by omega) (by omega) dL_law_985 ?_
  refine x_callVi C (As := [vI ((xs (i + 1).toNat).toInt), vI ((xs (i + 2).toNat).toInt)]) (rest := []) 129 law_m vc_X12 (m_needs l D cy um Vm Vm Jm Rm hVm hJm trivial ((xs (i + 1).toNat).toInt) (xi_r _) ((xs (i + 2).toNat).toInt) (xi_r _) hWm) (l1 := XW cy ux u42 Jx Rx) (l2 := []) (List.append_nil _).symm (w2 := fun u43 : Nat → Nat → Int => XW cy ux u42 Jx Rx ++ MW cy um u43 Jm Rm) (fun _ => List.append_nil _) rfl wm_yX12_needs wn_X12 wl_L_97 wi_yX12_needs we_yX12_needs hd_yX12_needs rfl ⟨Nat.le_of_ble_eq_true rfl, Nat.le_of_ble_eq_true rfl⟩ (Nat.le_of_ble_eq_true rfl) ⟨Nat.le_of_ble_eq_true rfl, Nat.le_of_ble_eq_true rfl⟩ dL_law_986 (fun r43 u43 hr43 h43 => ?_)
  obtain ⟨hS43, hBq43, hFq43⟩ := h43
  have hQ43 : MI u43 u43 := MI.sf hS43
  have hW43 : WP u43 := WP.of hS43 hWm
  have hKq43 : WR Rx u42 u43 := (hKk.keepT (hKk.tp (hBq42 58 1 (by omega)) (funext fun k => hBq42 59 k (by omega)) (hBq43.fl 4 (by decide)) (hBq43.rw 4 (by decide) (by decide))) (fun i hi => funext fun k => hBq42 i k (by omega)) (hBq42 0 3 (by omega)) (k_needs hFq43) (hBq43.rw 3 (by decide) (by decide)) (hBq43.kt (by decide)) (hBq43.fl 53 (by decide)))
  refine x_pop C.1 dL_law_989 rfl ?_
  refine x_goto C.1 (tgt := 1495) dL_law_990 (by decide) ?_
  exact kk u42 Jx Rx u43 Jm Rm ⟨hQ42, hJx, hRx, hQ43, hJm, hW43, hKq43⟩
set_option maxHeartbeats 8000000 in
set_option maxRecDepth 100000 in
theorem law_case_19 {p : Program} {e : Env} {s : State} {m : MethodId} {below : List Frame} {meth : Method} {c : Code} (l : Launch) (D : va_G) (cy : Nat → ClassId) {b L : Nat} {xs : Nat → Int32} (aK aV : Nat → Nat) (C : xC2 p s m #[Value.ref b] meth c D (fun q => s.heap.size ≤ q) s.heap 4 code RL (xTY cy)) (hE : zE aK aV (fun q => s.heap.size ≤ q) s s.heap) (hr : meth.sig.returnType = ret) (hX : va_X b L xs s s.heap) (hbl : b < s.heap.size) (hbA : ¬ (fun q : Nat => s.heap.size ≤ q) b) (hL : L ≤ 3072) (ux um : Nat → Nat) (i : Int) (hi : 0 ≤ i ∧ i + 6 ≤ L) (Vx Jx : Nat → Nat → Int) (Rx : Nat → Nat → Nat) (Vm Jm : Nat → Nat → Int) (Rm : Nat → Nat → Nat) (hLI : LI Vx Jx Rx Vm Jm Rm) (kk : ∀ (Vx Jx : Nat → Nat → Int) (Rx : Nat → Nat → Nat) (Vm Jm : Nat → Nat → Int) (Rm : Nat → Nat → Nat), LI Vx Jx Rx Vm Jm Rm → xW p l e room_1 s m #[Value.ref b] below meth c D (fun q => s.heap.size ≤ q) s.heap 4 162 8366 (lw_Z below #[Value.ref b] s) (XW cy ux Vx Jx Rx ++ MW cy um Vm Jm Rm) 1495 [(3, vI i), (2, .ref (um 0)), (1, .ref (ux 0)), (0, .ref b)] []) : xW p l e room_1 s m #[Value.ref b] below meth c D (fun q => s.heap.size ≤ q) s.heap 4 162 8366 (lw_Z below #[Value.ref b] s) (XW cy ux Vx Jx Rx ++ MW cy um Vm Jm Rm) 993 [(3, vI i), (2, .ref (um 0)), (1, .ref (ux 0)), (0, .ref b)] [] := by
  obtain ⟨hVx, hJx, hRx, hVm, hJm, hWm, hKk⟩ := hLI
  refine x_aload_n C.1 dL_law_993 2 rfl ?_
  refine x_aload_n C.1 dL_law_994 3 rfl ?_
  refine x_iload_n C.1 dL_law_995 0 rfl ?_
  refine x_iconst C.1 (n := 1) dL_law_996 ?_
  refine x_iadd C.1 (v := i + 1) (by omega) dL_law_997 ?_
  refine x_sld C (b := b) (i := i + 1) hX hbl hbA (by omega) (by omega) dL_law_998 ?_
  refine x_aload_n C.1 dL_law_999 3 rfl ?_
  refine x_iload_n C.1 dL_law_1000 0 rfl ?_
  refine x_iconst C.1 (n := 2) dL_law_1001 ?_
  refine x_iadd C.1 (v := i + 2) (by omega) dL_law_1002 ?_
  refine x_sld C (b := b) (i := i + 2) hX hbl hbA (by omega) (by omega) dL_law_1003 ?_
  refine x_aload_n C.1 dL_law_1004 3 rfl ?_
  refine x_iload_n C.1 dL_law_1005 0 rfl ?_
  refine x_iconst C.1 (n := 3) dL_law_1006 ?_
  refine x_iadd C.1 (v := i + 3) (by omega) dL_law_1007 ?_
  refine x_sld C (b := b) (i := i + 3) hX hbl hbA (by omega) (by omega) dL_law_1008 ?_
  refine x_callVi C (As := [vI ((xs (i + 1).toNat).toInt), vI ((xs (i + 2).toNat).toInt), vI ((xs (i + 3).toNat).toInt)]) (rest := []) 0 law_x vc_X11 (s_week l D cy ux Vx Vx Jx Rx hVx hJx hRx ((xs (i + 1).toNat).toInt) (xi_r _) ((xs (i + 2).toNat).toInt) (xi_r _) ((xs (i + 3).toNat).toInt) (xi_r _)) (l1 := []) (l2 := MW cy um Vm Jm Rm) rfl (w2 := fun u44 : Nat → Nat → Int => XW cy ux u44 Jx Rx ++ MW cy um Vm Jm Rm) (fun _ => rfl) rfl wm_yX11_week wn_X11 wl_L_98 wi_yX11_week we_yX11_week hd_yX11_week rfl ⟨Nat.le_of_ble_eq_true rfl, Nat.le_of_ble_eq_true rfl⟩ (Nat.le_of_ble_eq_true rfl) ⟨Nat.le_of_ble_eq_true rfl, Nat.le_of_ble_eq_true rfl⟩ dL_law_1009 (fun r44 u44 hr44 h44 => ?_)
  obtain ⟨hS44, hBq44, hFq44⟩ := h44
  have hQ44 : XI u44 u44 := XI.toU hS44
  refine x_pop C.1 dL_law_1012 rfl ?_
  refine x_aload_n C.1 dL_law_1013 1 rfl ?_
  refine x_aload_n C.1 dL_law_1014 3 rfl ?_
  refine x_iload_n C.1 dL_law_1015 0 rfl ?_
  refine x_iconst C.1 (n := 1) dL_law_1016 ?_
  refine x_iadd C.1 (v := i + 1) (by omega) dL_law_1017 ?_
  refine x_sld C (b := b) (i := i + 1) hX hbl hbA (by omega) (by omega) dL_law_1018 ?_
  refine x_aload_n C.1 dL_law_1019 3 rfl ?_
  refine x_iload_n C.1 dL_law_1020 0 rfl ?_
  refine x_iconst C.1 (n := 2) dL_law_1021 ?_
  refine x_iadd C.1 (v := i + 2) (by omega) dL_law_1022 ?_
  refine x_sld C (b := b) (i := i + 2) hX hbl hbA (by omega) (by omega) dL_law_1023 ?_
  refine x_aload_n C.1 dL_law_1024 3 rfl ?_
  refine x_iload_n C.1 dL_law_1025 0 rfl ?_
  refine x_iconst C.1 (n := 3) dL_law_1026 ?_
  refine x_iadd C.1 (v := i + 3) (by omega) dL_law_1027 ?_
  refine x_sld C (b := b) (i := i + 3) hX hbl hbA (by omega) (by omega) dL_law_1028 ?_
  refine x_callVi C (As := [vI ((xs (i + 1).toNat).toInt), vI ((xs (i + 2).toNat).toInt), vI ((xs (i + 3).toNat).toInt)]) (rest := []) 129 law_m vc_X12 (m_week l D cy um Vm Vm Jm Rm hVm hJm trivial ((xs (i + 1).toNat).toInt) (xi_r _) ((xs (i + 2).toNat).toInt) (xi_r _) ((xs (i + 3).toNat).toInt) (xi_r _) hWm) (l1 := XW cy ux u44 Jx Rx) (l2 := []) (List.append_nil _).symm (w2 := fun u45 : Nat → Nat → Int => XW cy ux u44 Jx Rx ++ MW cy um u45 Jm Rm) (fun _ => List.append_nil _) rfl wm_yX12_week wn_X12 wl_L_102 wi_yX12_week we_yX12_week hd_yX12_week rfl ⟨Nat.le_of_ble_eq_true rfl, Nat.le_of_ble_eq_true rfl⟩ (Nat.le_of_ble_eq_true rfl) ⟨Nat.le_of_ble_eq_true rfl, Nat.le_of_ble_eq_true rfl⟩ dL_law_1029 (fun r45 u45 hr45 h45 => ?_)
  obtain ⟨hS45, hBq45, hFq45⟩ := h45
  have hQ45 : MI u45 u45 := MI.sf hS45
  have hW45 : WP u45 := WP.of hS45 hWm
  have hKq45 : WR Rx u44 u45 := (hKk.keepT (hKk.tp (hBq44 58 1 (by omega)) (funext fun k => hBq44 59 k (by omega)) (hBq45.fl 4 (by decide)) (hBq45.rw 4 (by decide) (by decide))) (fun i hi => funext fun k => hBq44 i k (by omega)) (hBq44 0 3 (by omega)) (k_week hFq45) (hBq45.rw 3 (by decide) (by decide)) (hBq45.kt (by decide)) (hBq45.fl 53 (by decide)))
  refine x_pop C.1 dL_law_1032 rfl ?_
  refine x_goto C.1 (tgt := 1495) dL_law_1033 (by decide) ?_
  exact kk u44 Jx Rx u45 Jm Rm ⟨hQ44, hJx, hRx, hQ45, hJm, hW45, hKq45⟩
set_option maxHeartbeats 8000000 in
set_option maxRecDepth 100000 in
theorem law_case_20 {p : Program} {e : Env} {s : State} {m : MethodId} {below : List Frame} {meth : Method} {c : Code} (l : Launch) (D : va_G) (cy : Nat → ClassId) {b L : Nat} {xs : Nat → Int32} (aK aV : Nat → Nat) (C : xC2 p s m #[Value.ref b] meth c D (fun q => s.heap.size ≤ q) s.heap 4 code RL (xTY cy)) (hE : zE aK aV (fun q => s.heap.size ≤ q) s s.heap) (hr : meth.sig.returnType = ret) (hX : va_X b L xs s s.heap) (hbl : b < s.heap.size) (hbA : ¬ (fun q : Nat => s.heap.size ≤ q) b) (hL : L ≤ 3072) (ux um : Nat → Nat) (i : Int) (hi : 0 ≤ i ∧ i + 6 ≤ L) (Vx Jx : Nat → Nat → Int) (Rx : Nat → Nat → Nat) (Vm Jm : Nat → Nat → Int) (Rm : Nat → Nat → Nat) (hLI : LI Vx Jx Rx Vm Jm Rm) (kk : ∀ (Vx Jx : Nat → Nat → Int) (Rx : Nat → Nat → Nat) (Vm Jm : Nat → Nat → Int) (Rm : Nat → Nat → Nat), LI Vx Jx Rx Vm Jm Rm → xW p l e room_1 s m #[Value.ref b] below meth c D (fun q => s.heap.size ≤ q) s.heap 4 162 8366 (lw_Z below #[Value.ref b] s) (XW cy ux Vx Jx Rx ++ MW cy um Vm Jm Rm) 1495 [(3, vI i), (2, .ref (um 0)), (1, .ref (ux 0)), (0, .ref b)] []) : xW p l e room_1 s m #[Value.ref b] below meth c D (fun q => s.heap.size ≤ q) s.heap 4 162 8366 (lw_Z below #[Value.ref b] s) (XW cy ux Vx Jx Rx ++ MW cy um Vm Jm Rm) 1036 [(3, vI i), (2, .ref (um 0)), (1, .ref (ux 0)), (0, .ref b)] [] := by
  obtain ⟨hVx, hJx, hRx, hVm, hJm, hWm, hKk⟩ := hLI
  refine x_aload_n C.1 dL_law_1036 2 rfl ?_
  refine x_aload_n C.1 dL_law_1037 3 rfl ?_
  refine x_iload_n C.1 dL_law_1038 0 rfl ?_
  refine x_iconst C.1 (n := 1) dL_law_1039 ?_
  refine x_iadd C.1 (v := i + 1) (by omega) dL_law_1040 ?_
  refine x_sld C (b := b) (i := i + 1) hX hbl hbA (by omega) (by omega) dL_law_1041 ?_
  refine x_aload_n C.1 dL_law_1042 3 rfl ?_
  refine x_iload_n C.1 dL_law_1043 0 rfl ?_
  refine x_iconst C.1 (n := 2) dL_law_1044 ?_
  refine x_iadd C.1 (v := i + 2) (by omega) dL_law_1045 ?_
  refine x_sld C (b := b) (i := i + 2) hX hbl hbA (by omega) (by omega) dL_law_1046 ?_
  refine x_aload_n C.1 dL_law_1047 3 rfl ?_
  refine x_iload_n C.1 dL_law_1048 0 rfl ?_
  refine x_iconst C.1 (n := 3) dL_law_1049 ?_
  refine x_iadd C.1 (v := i + 3) (by omega) dL_law_1050 ?_
  refine x_sld C (b := b) (i := i + 3) hX hbl hbA (by omega) (by omega) dL_law_1051 ?_
  refine x_aload_n C.1 dL_law_1052 3 rfl ?_
  refine x_iload_n C.1 dL_law_1053 0 rfl ?_
  refine x_iconst C.1 (n := 4) dL_law_1054 ?_
  refine x_iadd C.1 (v := i + 4) (by omega) dL_law_1055 ?_
  refine x_sld C (b := b) (i := i + 4) hX hbl hbA (by omega) (by omega) dL_law_1056 ?_
  refine x_callVl C (As := [vI ((xs (i + 1).toNat).toInt), vI ((xs (i + 2).toNat).toInt), vI ((xs (i + 3).toNat).toInt), vI ((xs (i + 4).toNat).toInt)]) (rest := []) 0 law_x vc_X11 (s_movesOut l D cy ux Vx Vx Jx Rx hVx hJx hRx ((xs (i + 1).toNat).toInt) (xi_r _) ((xs (i + 2).toNat).toInt) (xi_r _) ((xs (i + 3).toNat).toInt) (xi_r _) ((xs (i + 4).toNat).toInt) (xi_r _)) (l1 := []) (l2 := MW cy um Vm Jm Rm) rfl (w2 := fun u46 : xS => XW cy ux u46.1 u46.2.1 u46.2.2 ++ MW cy um Vm Jm Rm) (fun _ => rfl) rfl wm_yX11_movesOut wn_X11 wl_L_103 wi_yX11_movesOut we_yX11_movesOut hd_yX11_movesOut rfl ⟨Nat.le_of_ble_eq_true rfl, Nat.le_of_ble_eq_true rfl⟩ (Nat.le_of_ble_eq_true rfl) ⟨Nat.le_of_ble_eq_true rfl, Nat.le_of_ble_eq_true rfl⟩ dL_law_1057 (fun r46 u46 hr46 h46 => ?_)
  obtain ⟨hS46, hBq46, hRq46, hFq46⟩ := h46
  obtain ⟨V46, J46, R46⟩ := u46
  obtain ⟨hI46, hJ46, hR46⟩ := hS46
  dsimp only at hI46 hJ46 hR46 ⊢
  have hQ46 : XI V46 V46 := XI.toU hI46
  refine x_pop2 C.1 dL_law_1060 rfl ?_
  refine x_aload_n C.1 dL_law_1061 1 rfl ?_
  refine x_aload_n C.1 dL_law_1062 3 rfl ?_
  refine x_iload_n C.1 dL_law_1063 0 rfl ?_
  refine x_iconst C.1 (n := 1) dL_law_1064 ?_
  refine x_iadd C.1 (v := i + 1) (by omega) dL_law_1065 ?_
  refine x_sld C (b := b) (i := i + 1) hX hbl hbA (by omega) (by omega) dL_law_1066 ?_
  refine x_aload_n C.1 dL_law_1067 3 rfl ?_
  refine x_iload_n C.1 dL_law_1068 0 rfl ?_
  refine x_iconst C.1 (n := 2) dL_law_1069 ?_
  refine x_iadd C.1 (v := i + 2) (by omega) dL_law_1070 ?_
  refine x_sld C (b := b) (i := i + 2) hX hbl hbA (by omega) (by omega) dL_law_1071 ?_
  refine x_aload_n C.1 dL_law_1072 3 rfl ?_
  refine x_iload_n C.1 dL_law_1073 0 rfl ?_
  refine x_iconst C.1 (n := 3) dL_law_1074 ?_
  refine x_iadd C.1 (v := i + 3) (by omega) dL_law_1075 ?_
  refine x_sld C (b := b) (i := i + 3) hX hbl hbA (by omega) (by omega) dL_law_1076 ?_
  refine x_aload_n C.1 dL_law_1077 3 rfl ?_
  refine x_iload_n C.1 dL_law_1078 0 rfl ?_
  refine x_iconst C.1 (n := 4) dL_law_1079 ?_
  refine x_iadd C.1 (v := i + 4) (by omega) dL_law_1080 ?_
  refine x_sld C (b := b) (i := i + 4) hX hbl hbA (by omega) (by omega) dL_law_1081 ?_
  refine x_callVl C (As := [vI ((xs (i + 1).toNat).toInt), vI ((xs (i + 2).toNat).toInt), vI ((xs (i + 3).toNat).toInt), vI ((xs (i + 4).toNat).toInt)]) (rest := []) 129 law_m vc_X12 (m_movesOut l D cy um Vm Vm Jm Rm hVm hJm trivial ((xs (i + 1).toNat).toInt) (xi_r _) ((xs (i + 2).toNat).toInt) (xi_r _) ((xs (i + 3).toNat).toInt) (xi_r _) ((xs (i + 4).toNat).toInt) (xi_r _) hWm) (l1 := XW cy ux V46 J46 R46) (l2 := []) (List.append_nil _).symm (w2 := fun u47 : xS => XW cy ux V46 J46 R46 ++ MW cy um u47.1 u47.2.1 u47.2.2) (fun _ => List.append_nil _) rfl wm_yX12_movesOut wn_X12 wl_L_106 wi_yX12_movesOut we_yX12_movesOut hd_yX12_movesOut rfl ⟨Nat.le_of_ble_eq_true rfl, Nat.le_of_ble_eq_true rfl⟩ (Nat.le_of_ble_eq_true rfl) ⟨Nat.le_of_ble_eq_true rfl, Nat.le_of_ble_eq_true rfl⟩ dL_law_1082 (fun r47 u47 hr47 h47 => ?_)
  obtain ⟨hS47, hBq47, hFq47⟩ := h47
  obtain ⟨V47, J47, R47⟩ := u47
  obtain ⟨hI47, hJ47, hR47⟩ := hS47
  dsimp only at hI47 hJ47 hR47 ⊢
  have hQ47 : MI V47 V47 := MI.sf hI47
  have hW47 : WP V47 := WP.of hI47 hWm
  have hKq47 : WR R46 V46 V47 := (hKk.keepT (hKk.tp (hBq46 58 1 (by omega)) (funext fun k => hBq46 59 k (by omega)) (hBq47.fl 4 (by decide)) (hBq47.rw 4 (by decide) (by decide))) (fun i hi => funext fun k => hBq46 i k (by omega)) (hBq46 0 3 (by omega)) (fun k _ => k_movesOut hFq47 k) (hBq47.rw 3 (by decide) (by decide)) (hBq47.kt (by decide)) (hBq47.fl 53 (by decide))).rk hRq46
  refine x_pop2 C.1 dL_law_1085 rfl ?_
  refine x_goto C.1 (tgt := 1495) dL_law_1086 (by decide) ?_
  exact kk V46 J46 R46 V47 J47 R47 ⟨hQ46, hJ46, hR46, hQ47, hJ47, hW47, hKq47⟩
set_option maxHeartbeats 8000000 in
set_option maxRecDepth 100000 in
theorem law_case_21 {p : Program} {e : Env} {s : State} {m : MethodId} {below : List Frame} {meth : Method} {c : Code} (l : Launch) (D : va_G) (cy : Nat → ClassId) {b L : Nat} {xs : Nat → Int32} (aK aV : Nat → Nat) (C : xC2 p s m #[Value.ref b] meth c D (fun q => s.heap.size ≤ q) s.heap 4 code RL (xTY cy)) (hE : zE aK aV (fun q => s.heap.size ≤ q) s s.heap) (hr : meth.sig.returnType = ret) (hX : va_X b L xs s s.heap) (hbl : b < s.heap.size) (hbA : ¬ (fun q : Nat => s.heap.size ≤ q) b) (hL : L ≤ 3072) (ux um : Nat → Nat) (i : Int) (hi : 0 ≤ i ∧ i + 6 ≤ L) (Vx Jx : Nat → Nat → Int) (Rx : Nat → Nat → Nat) (Vm Jm : Nat → Nat → Int) (Rm : Nat → Nat → Nat) (hLI : LI Vx Jx Rx Vm Jm Rm) (kk : ∀ (Vx Jx : Nat → Nat → Int) (Rx : Nat → Nat → Nat) (Vm Jm : Nat → Nat → Int) (Rm : Nat → Nat → Nat), LI Vx Jx Rx Vm Jm Rm → xW p l e room_1 s m #[Value.ref b] below meth c D (fun q => s.heap.size ≤ q) s.heap 4 162 8366 (lw_Z below #[Value.ref b] s) (XW cy ux Vx Jx Rx ++ MW cy um Vm Jm Rm) 1495 [(3, vI i), (2, .ref (um 0)), (1, .ref (ux 0)), (0, .ref b)] []) : xW p l e room_1 s m #[Value.ref b] below meth c D (fun q => s.heap.size ≤ q) s.heap 4 162 8366 (lw_Z below #[Value.ref b] s) (XW cy ux Vx Jx Rx ++ MW cy um Vm Jm Rm) 1089 [(3, vI i), (2, .ref (um 0)), (1, .ref (ux 0)), (0, .ref b)] [] := by
  obtain ⟨hVx, hJx, hRx, hVm, hJm, hWm, hKk⟩ := hLI
  refine x_aload_n C.1 dL_law_1089 2 rfl ?_
  refine x_aload_n C.1 dL_law_1090 3 rfl ?_
  refine x_iload_n C.1 dL_law_1091 0 rfl ?_
  refine x_iconst C.1 (n := 1) dL_law_1092 ?_
  refine x_iadd C.1 (v := i + 1) (by omega) dL_law_1093 ?_
  refine x_sld C (b := b) (i := i + 1) hX hbl hbA (by omega) (by omega) dL_law_1094 ?_
  refine x_aload_n C.1 dL_law_1095 3 rfl ?_
  refine x_iload_n C.1 dL_law_1096 0 rfl ?_
  refine x_iconst C.1 (n := 2) dL_law_1097 ?_
  refine x_iadd C.1 (v := i + 2) (by omega) dL_law_1098 ?_
  refine x_sld C (b := b) (i := i + 2) hX hbl hbA (by omega) (by omega) dL_law_1099 ?_
  refine x_callVi C (As := [vI ((xs (i + 1).toNat).toInt), vI ((xs (i + 2).toNat).toInt)]) (rest := []) 0 law_x vc_X11 (s_spread l D cy ux Vx Vx Jx Rx hVx hJx hRx ((xs (i + 1).toNat).toInt) (xi_r _) ((xs (i + 2).toNat).toInt) (xi_r _)) (l1 := []) (l2 := MW cy um Vm Jm Rm) rfl (w2 := fun u48 : Nat → Nat → Int => XW cy ux u48 Jx Rx ++ MW cy um Vm Jm Rm) (fun _ => rfl) rfl wm_yX11_spread wn_X11 wl_L_107 wi_yX11_spread we_yX11_spread hd_yX11_spread rfl ⟨Nat.le_of_ble_eq_true rfl, Nat.le_of_ble_eq_true rfl⟩ (Nat.le_of_ble_eq_true rfl) ⟨Nat.le_of_ble_eq_true rfl, Nat.le_of_ble_eq_true rfl⟩ dL_law_1100 (fun r48 u48 hr48 h48 => ?_)
  obtain ⟨hS48, hBq48, hFq48⟩ := h48
  have hQ48 : XI u48 u48 := XI.toU hS48
  refine x_pop C.1 dL_law_1103 rfl ?_
  refine x_aload_n C.1 dL_law_1104 1 rfl ?_
  refine x_aload_n C.1 dL_law_1105 3 rfl ?_
  refine x_iload_n C.1 dL_law_1106 0 rfl ?_
  refine x_iconst C.1 (n := 1) dL_law_1107 ?_
  refine x_iadd C.1 (v := i + 1) (by omega) dL_law_1108 ?_
  refine x_sld C (b := b) (i := i + 1) hX hbl hbA (by omega) (by omega) dL_law_1109 ?_
  refine x_aload_n C.1 dL_law_1110 3 rfl ?_
  refine x_iload_n C.1 dL_law_1111 0 rfl ?_
  refine x_iconst C.1 (n := 2) dL_law_1112 ?_
  refine x_iadd C.1 (v := i + 2) (by omega) dL_law_1113 ?_
  refine x_sld C (b := b) (i := i + 2) hX hbl hbA (by omega) (by omega) dL_law_1114 ?_
  refine x_callVi C (As := [vI ((xs (i + 1).toNat).toInt), vI ((xs (i + 2).toNat).toInt)]) (rest := []) 129 law_m vc_X12 (m_spread l D cy um Vm Vm Jm Rm hVm hJm trivial ((xs (i + 1).toNat).toInt) (xi_r _) ((xs (i + 2).toNat).toInt) (xi_r _) hWm) (l1 := XW cy ux u48 Jx Rx) (l2 := []) (List.append_nil _).symm (w2 := fun u49 : Nat → Nat → Int => XW cy ux u48 Jx Rx ++ MW cy um u49 Jm Rm) (fun _ => List.append_nil _) rfl wm_yX12_spread wn_X12 wl_L_110 wi_yX12_spread we_yX12_spread hd_yX12_spread rfl ⟨Nat.le_of_ble_eq_true rfl, Nat.le_of_ble_eq_true rfl⟩ (Nat.le_of_ble_eq_true rfl) ⟨Nat.le_of_ble_eq_true rfl, Nat.le_of_ble_eq_true rfl⟩ dL_law_1115 (fun r49 u49 hr49 h49 => ?_)
  obtain ⟨hS49, hBq49, hFq49⟩ := h49
  have hQ49 : MI u49 u49 := MI.sf hS49
  have hW49 : WP u49 := WP.of hS49 hWm
  have hKq49 : WR Rx u48 u49 := (hKk.keepT (hKk.tp (hBq48 58 1 (by omega)) (funext fun k => hBq48 59 k (by omega)) (hBq49.fl 4 (by decide)) (hBq49.rw 4 (by decide) (by decide))) (fun i hi => funext fun k => hBq48 i k (by omega)) (hBq48 0 3 (by omega)) (k_spread hFq49) (hBq49.rw 3 (by decide) (by decide)) (hBq49.kt (by decide)) (hBq49.fl 53 (by decide)))
  refine x_pop C.1 dL_law_1118 rfl ?_
  refine x_goto C.1 (tgt := 1495) dL_law_1119 (by decide) ?_
  exact kk u48 Jx Rx u49 Jm Rm ⟨hQ48, hJx, hRx, hQ49, hJm, hW49, hKq49⟩
set_option maxHeartbeats 8000000 in
set_option maxRecDepth 100000 in
theorem law_case_22 {p : Program} {e : Env} {s : State} {m : MethodId} {below : List Frame} {meth : Method} {c : Code} (l : Launch) (D : va_G) (cy : Nat → ClassId) {b L : Nat} {xs : Nat → Int32} (aK aV : Nat → Nat) (C : xC2 p s m #[Value.ref b] meth c D (fun q => s.heap.size ≤ q) s.heap 4 code RL (xTY cy)) (hE : zE aK aV (fun q => s.heap.size ≤ q) s s.heap) (hr : meth.sig.returnType = ret) (hX : va_X b L xs s s.heap) (hbl : b < s.heap.size) (hbA : ¬ (fun q : Nat => s.heap.size ≤ q) b) (hL : L ≤ 3072) (ux um : Nat → Nat) (i : Int) (hi : 0 ≤ i ∧ i + 6 ≤ L) (Vx Jx : Nat → Nat → Int) (Rx : Nat → Nat → Nat) (Vm Jm : Nat → Nat → Int) (Rm : Nat → Nat → Nat) (hLI : LI Vx Jx Rx Vm Jm Rm) (kk : ∀ (Vx Jx : Nat → Nat → Int) (Rx : Nat → Nat → Nat) (Vm Jm : Nat → Nat → Int) (Rm : Nat → Nat → Nat), LI Vx Jx Rx Vm Jm Rm → xW p l e room_1 s m #[Value.ref b] below meth c D (fun q => s.heap.size ≤ q) s.heap 4 162 8366 (lw_Z below #[Value.ref b] s) (XW cy ux Vx Jx Rx ++ MW cy um Vm Jm Rm) 1495 [(3, vI i), (2, .ref (um 0)), (1, .ref (ux 0)), (0, .ref b)] []) : xW p l e room_1 s m #[Value.ref b] below meth c D (fun q => s.heap.size ≤ q) s.heap 4 162 8366 (lw_Z below #[Value.ref b] s) (XW cy ux Vx Jx Rx ++ MW cy um Vm Jm Rm) 1122 [(3, vI i), (2, .ref (um 0)), (1, .ref (ux 0)), (0, .ref b)] [] := by
  obtain ⟨hVx, hJx, hRx, hVm, hJm, hWm, hKk⟩ := hLI
  refine x_aload_n C.1 dL_law_1122 2 rfl ?_
  refine x_aload_n C.1 dL_law_1123 3 rfl ?_
  refine x_iload_n C.1 dL_law_1124 0 rfl ?_
  refine x_iconst C.1 (n := 1) dL_law_1125 ?_
  refine x_iadd C.1 (v := i + 1) (by omega) dL_law_1126 ?_
  refine x_sld C (b := b) (i := i + 1) hX hbl hbA (by omega) (by omega) dL_law_1127 ?_
  refine x_aload_n C.1 dL_law_1128 3 rfl ?_
  refine x_iload_n C.1 dL_law_1129 0 rfl ?_
  refine x_iconst C.1 (n := 2) dL_law_1130 ?_
  refine x_iadd C.1 (v := i + 2) (by omega) dL_law_1131 ?_
  refine x_sld C (b := b) (i := i + 2) hX hbl hbA (by omega) (by omega) dL_law_1132 ?_
  refine x_aload_n C.1 dL_law_1133 3 rfl ?_
  refine x_iload_n C.1 dL_law_1134 0 rfl ?_
  refine x_iconst C.1 (n := 3) dL_law_1135 ?_
  refine x_iadd C.1 (v := i + 3) (by omega) dL_law_1136 ?_
  refine x_sld C (b := b) (i := i + 3) hX hbl hbA (by omega) (by omega) dL_law_1137 ?_
  refine x_callVl C (As := [vI ((xs (i + 1).toNat).toInt), vI ((xs (i + 2).toNat).toInt), vI ((xs (i + 3).toNat).toInt)]) (rest := []) 0 law_x vc_X11 (s_comes l D cy ux Vx Vx Jx Rx hVx hJx hRx ((xs (i + 1).toNat).toInt) (xi_r _) ((xs (i + 2).toNat).toInt) (xi_r _) ((xs (i + 3).toNat).toInt) (xi_r _)) (l1 := []) (l2 := MW cy um Vm Jm Rm) rfl (w2 := fun u50 : xS => XW cy ux u50.1 u50.2.1 u50.2.2 ++ MW cy um Vm Jm Rm) (fun _ => rfl) rfl wm_yX11_comes wn_X11 wl_L_111 wi_yX11_comes we_yX11_comes hd_yX11_comes rfl ⟨Nat.le_of_ble_eq_true rfl, Nat.le_of_ble_eq_true rfl⟩ (Nat.le_of_ble_eq_true rfl) ⟨Nat.le_of_ble_eq_true rfl, Nat.le_of_ble_eq_true rfl⟩ dL_law_1138 (fun r50 u50 hr50 h50 => ?_)
  obtain ⟨hS50, hBq50, hRq50, hFq50⟩ := h50
  obtain ⟨V50, J50, R50⟩ := u50
  obtain ⟨hI50, hJ50, hR50⟩ := hS50
  dsimp only at hI50 hJ50 hR50 ⊢
  have hQ50 : XI V50 V50 := XI.toU hI50
  refine x_pop2 C.1 dL_law_1141 rfl ?_
  refine x_aload_n C.1 dL_law_1142 1 rfl ?_
  refine x_aload_n C.1 dL_law_1143 3 rfl ?_
  refine x_iload_n C.1 dL_law_1144 0 rfl ?_
  refine x_iconst C.1 (n := 1) dL_law_1145 ?_
  refine x_iadd C.1 (v := i + 1) (by omega) dL_law_1146 ?_
  refine x_sld C (b := b) (i := i + 1) hX hbl hbA (by omega) (by omega) dL_law_1147 ?_
  refine x_aload_n C.1 dL_law_1148 3 rfl ?_
  refine x_iload_n C.1 dL_law_1149 0 rfl ?_
  refine x_iconst C.1 (n := 2) dL_law_1150 ?_
  refine x_iadd C.1 (v := i + 2) (by omega) dL_law_1151 ?_
  refine x_sld C (b := b) (i := i + 2) hX hbl hbA (by omega) (by omega) dL_law_1152 ?_
  refine x_aload_n C.1 dL_law_1153 3 rfl ?_
  refine x_iload_n C.1 dL_law_1154 0 rfl ?_
  refine x_iconst C.1 (n := 3) dL_law_1155 ?_
  refine x_iadd C.1 (v := i + 3) (by omega) dL_law_1156 ?_
  refine x_sld C (b := b) (i := i + 3) hX hbl hbA (by omega) (by omega) dL_law_1157 ?_
  refine x_callVl C (As := [vI ((xs (i + 1).toNat).toInt), vI ((xs (i + 2).toNat).toInt), vI ((xs (i + 3).toNat).toInt)]) (rest := []) 129 law_m vc_X12 (m_comes l D cy um Vm Vm Jm Rm hVm hJm trivial ((xs (i + 1).toNat).toInt) (xi_r _) ((xs (i + 2).toNat).toInt) (xi_r _) ((xs (i + 3).toNat).toInt) (xi_r _)) (l1 := XW cy ux V50 J50 R50) (l2 := []) (List.append_nil _).symm (w2 := fun u51 : xS => XW cy ux V50 J50 R50 ++ MW cy um u51.1 u51.2.1 u51.2.2) (fun _ => List.append_nil _) rfl wm_yX12_comes wn_X12 wl_L_115 wi_yX12_comes we_yX12_comes hd_yX12_comes rfl ⟨Nat.le_of_ble_eq_true rfl, Nat.le_of_ble_eq_true rfl⟩ (Nat.le_of_ble_eq_true rfl) ⟨Nat.le_of_ble_eq_true rfl, Nat.le_of_ble_eq_true rfl⟩ dL_law_1158 (fun r51 u51 hr51 h51 => ?_)
  obtain ⟨hS51, hBq51, hFq51⟩ := h51
  obtain ⟨V51, J51, R51⟩ := u51
  obtain ⟨hI51, hJ51, hR51⟩ := hS51
  dsimp only at hI51 hJ51 hR51 ⊢
  have hQ51 : MI V51 V51 := MI.sf hI51
  have hW51 : WP V51 := WP.of hI51 hWm
  have hKq51 : WR R50 V50 V51 := (hKk.keepT (t_comes hKk.2.2.2.2 hFq50 hFq51) (fun i hi => funext fun k => hBq50 i k (by omega)) (hBq50 0 3 (by omega)) (fun k _ => congrFun (hBq51.rw 1 (by decide) (by decide)) k) (hBq51.rw 3 (by decide) (by decide)) (hBq51.kt (by decide)) (hBq51.fl 53 (by decide))).rk hRq50
  refine x_pop2 C.1 dL_law_1161 rfl ?_
  refine x_goto C.1 (tgt := 1495) dL_law_1162 (by decide) ?_
  exact kk V50 J50 R50 V51 J51 R51 ⟨hQ50, hJ50, hR50, hQ51, hJ51, hW51, hKq51⟩
set_option maxHeartbeats 8000000 in
set_option maxRecDepth 100000 in
theorem law_case_23 {p : Program} {e : Env} {s : State} {m : MethodId} {below : List Frame} {meth : Method} {c : Code} (l : Launch) (D : va_G) (cy : Nat → ClassId) {b L : Nat} {xs : Nat → Int32} (aK aV : Nat → Nat) (C : xC2 p s m #[Value.ref b] meth c D (fun q => s.heap.size ≤ q) s.heap 4 code RL (xTY cy)) (hE : zE aK aV (fun q => s.heap.size ≤ q) s s.heap) (hr : meth.sig.returnType = ret) (hX : va_X b L xs s s.heap) (hbl : b < s.heap.size) (hbA : ¬ (fun q : Nat => s.heap.size ≤ q) b) (hL : L ≤ 3072) (ux um : Nat → Nat) (i : Int) (hi : 0 ≤ i ∧ i + 6 ≤ L) (Vx Jx : Nat → Nat → Int) (Rx : Nat → Nat → Nat) (Vm Jm : Nat → Nat → Int) (Rm : Nat → Nat → Nat) (hLI : LI Vx Jx Rx Vm Jm Rm) (kk : ∀ (Vx Jx : Nat → Nat → Int) (Rx : Nat → Nat → Nat) (Vm Jm : Nat → Nat → Int) (Rm : Nat → Nat → Nat), LI Vx Jx Rx Vm Jm Rm → xW p l e room_1 s m #[Value.ref b] below meth c D (fun q => s.heap.size ≤ q) s.heap 4 162 8366 (lw_Z below #[Value.ref b] s) (XW cy ux Vx Jx Rx ++ MW cy um Vm Jm Rm) 1495 [(3, vI i), (2, .ref (um 0)), (1, .ref (ux 0)), (0, .ref b)] []) : xW p l e room_1 s m #[Value.ref b] below meth c D (fun q => s.heap.size ≤ q) s.heap 4 162 8366 (lw_Z below #[Value.ref b] s) (XW cy ux Vx Jx Rx ++ MW cy um Vm Jm Rm) 1165 [(3, vI i), (2, .ref (um 0)), (1, .ref (ux 0)), (0, .ref b)] [] := by
  obtain ⟨hVx, hJx, hRx, hVm, hJm, hWm, hKk⟩ := hLI
  refine x_aload_n C.1 dL_law_1165 2 rfl ?_
  refine x_aload_n C.1 dL_law_1166 3 rfl ?_
  refine x_iload_n C.1 dL_law_1167 0 rfl ?_
  refine x_iconst C.1 (n := 1) dL_law_1168 ?_
  refine x_iadd C.1 (v := i + 1) (by omega) dL_law_1169 ?_
  refine x_sld C (b := b) (i := i + 1) hX hbl hbA (by omega) (by omega) dL_law_1170 ?_
  refine x_aload_n C.1 dL_law_1171 3 rfl ?_
  refine x_iload_n C.1 dL_law_1172 0 rfl ?_
  refine x_iconst C.1 (n := 2) dL_law_1173 ?_
  refine x_iadd C.1 (v := i + 2) (by omega) dL_law_1174 ?_
  refine x_sld C (b := b) (i := i + 2) hX hbl hbA (by omega) (by omega) dL_law_1175 ?_
  refine x_callVi C (As := [vI ((xs (i + 1).toNat).toInt), vI ((xs (i + 2).toNat).toInt)]) (rest := []) 0 law_x vc_X11 (s_share l D cy ux Vx Vx Jx Rx hVx hJx hRx ((xs (i + 1).toNat).toInt) (xi_r _) ((xs (i + 2).toNat).toInt) (xi_r _)) (l1 := []) (l2 := MW cy um Vm Jm Rm) rfl (w2 := fun u52 : Unit => XW cy ux Vx Jx Rx ++ MW cy um Vm Jm Rm) (fun _ => rfl) rfl wm_yX11_share wn_X11 wl_L_116 wi_yX11_share we_yX11_share hd_yX11_share rfl ⟨Nat.le_of_ble_eq_true rfl, Nat.le_of_ble_eq_true rfl⟩ (Nat.le_of_ble_eq_true rfl) ⟨Nat.le_of_ble_eq_true rfl, Nat.le_of_ble_eq_true rfl⟩ dL_law_1176 (fun r52 u52 hr52 h52 => ?_)
  have hFq52 := h52
  refine x_pop C.1 dL_law_1179 rfl ?_
  refine x_aload_n C.1 dL_law_1180 1 rfl ?_
  refine x_aload_n C.1 dL_law_1181 3 rfl ?_
  refine x_iload_n C.1 dL_law_1182 0 rfl ?_
  refine x_iconst C.1 (n := 1) dL_law_1183 ?_
  refine x_iadd C.1 (v := i + 1) (by omega) dL_law_1184 ?_
  refine x_sld C (b := b) (i := i + 1) hX hbl hbA (by omega) (by omega) dL_law_1185 ?_
  refine x_aload_n C.1 dL_law_1186 3 rfl ?_
  refine x_iload_n C.1 dL_law_1187 0 rfl ?_
  refine x_iconst C.1 (n := 2) dL_law_1188 ?_
  refine x_iadd C.1 (v := i + 2) (by omega) dL_law_1189 ?_
  refine x_sld C (b := b) (i := i + 2) hX hbl hbA (by omega) (by omega) dL_law_1190 ?_
  refine x_callVi C (As := [vI ((xs (i + 1).toNat).toInt), vI ((xs (i + 2).toNat).toInt)]) (rest := []) 129 law_m vc_X12 (m_share l D cy um Vm Vm Jm Rm hVm hJm trivial ((xs (i + 1).toNat).toInt) (xi_r _) ((xs (i + 2).toNat).toInt) (xi_r _)) (l1 := XW cy ux Vx Jx Rx) (l2 := []) (List.append_nil _).symm (w2 := fun u53 : Unit => XW cy ux Vx Jx Rx ++ MW cy um Vm Jm Rm) (fun _ => List.append_nil _) rfl wm_yX12_share wn_X12 wl_L_119 wi_yX12_share we_yX12_share hd_yX12_share rfl ⟨Nat.le_of_ble_eq_true rfl, Nat.le_of_ble_eq_true rfl⟩ (Nat.le_of_ble_eq_true rfl) ⟨Nat.le_of_ble_eq_true rfl, Nat.le_of_ble_eq_true rfl⟩ dL_law_1191 (fun r53 u53 hr53 h53 => ?_)
  have hFq53 := h53
  refine x_pop C.1 dL_law_1194 rfl ?_
  refine x_goto C.1 (tgt := 1495) dL_law_1195 (by decide) ?_
  exact kk Vx Jx Rx Vm Jm Rm ⟨hVx, hJx, hRx, hVm, hJm, hWm, hKk⟩
set_option maxHeartbeats 8000000 in
set_option maxRecDepth 100000 in
theorem law_case_24 {p : Program} {e : Env} {s : State} {m : MethodId} {below : List Frame} {meth : Method} {c : Code} (l : Launch) (D : va_G) (cy : Nat → ClassId) {b L : Nat} {xs : Nat → Int32} (aK aV : Nat → Nat) (C : xC2 p s m #[Value.ref b] meth c D (fun q => s.heap.size ≤ q) s.heap 4 code RL (xTY cy)) (hE : zE aK aV (fun q => s.heap.size ≤ q) s s.heap) (hr : meth.sig.returnType = ret) (hX : va_X b L xs s s.heap) (hbl : b < s.heap.size) (hbA : ¬ (fun q : Nat => s.heap.size ≤ q) b) (hL : L ≤ 3072) (ux um : Nat → Nat) (i : Int) (hi : 0 ≤ i ∧ i + 6 ≤ L) (Vx Jx : Nat → Nat → Int) (Rx : Nat → Nat → Nat) (Vm Jm : Nat → Nat → Int) (Rm : Nat → Nat → Nat) (hLI : LI Vx Jx Rx Vm Jm Rm) (kk : ∀ (Vx Jx : Nat → Nat → Int) (Rx : Nat → Nat → Nat) (Vm Jm : Nat → Nat → Int) (Rm : Nat → Nat → Nat), LI Vx Jx Rx Vm Jm Rm → xW p l e room_1 s m #[Value.ref b] below meth c D (fun q => s.heap.size ≤ q) s.heap 4 162 8366 (lw_Z below #[Value.ref b] s) (XW cy ux Vx Jx Rx ++ MW cy um Vm Jm Rm) 1495 [(3, vI i), (2, .ref (um 0)), (1, .ref (ux 0)), (0, .ref b)] []) : xW p l e room_1 s m #[Value.ref b] below meth c D (fun q => s.heap.size ≤ q) s.heap 4 162 8366 (lw_Z below #[Value.ref b] s) (XW cy ux Vx Jx Rx ++ MW cy um Vm Jm Rm) 1198 [(3, vI i), (2, .ref (um 0)), (1, .ref (ux 0)), (0, .ref b)] [] := by
  obtain ⟨hVx, hJx, hRx, hVm, hJm, hWm, hKk⟩ := hLI
  refine x_aload_n C.1 dL_law_1198 2 rfl ?_
  refine x_aload_n C.1 dL_law_1199 3 rfl ?_
  refine x_iload_n C.1 dL_law_1200 0 rfl ?_
  refine x_iconst C.1 (n := 1) dL_law_1201 ?_
  refine x_iadd C.1 (v := i + 1) (by omega) dL_law_1202 ?_
  refine x_sld C (b := b) (i := i + 1) hX hbl hbA (by omega) (by omega) dL_law_1203 ?_
  refine x_aload_n C.1 dL_law_1204 3 rfl ?_
  refine x_iload_n C.1 dL_law_1205 0 rfl ?_
  refine x_iconst C.1 (n := 2) dL_law_1206 ?_
  refine x_iadd C.1 (v := i + 2) (by omega) dL_law_1207 ?_
  refine x_sld C (b := b) (i := i + 2) hX hbl hbA (by omega) (by omega) dL_law_1208 ?_
  refine x_aload_n C.1 dL_law_1209 3 rfl ?_
  refine x_iload_n C.1 dL_law_1210 0 rfl ?_
  refine x_iconst C.1 (n := 3) dL_law_1211 ?_
  refine x_iadd C.1 (v := i + 3) (by omega) dL_law_1212 ?_
  refine x_sld C (b := b) (i := i + 3) hX hbl hbA (by omega) (by omega) dL_law_1213 ?_
  refine x_callVi C (As := [vI ((xs (i + 1).toNat).toInt), vI ((xs (i + 2).toNat).toInt), vI ((xs (i + 3).toNat).toInt)]) (rest := []) 0 law_x vc_X11 (s_rota l D cy ux Vx Vx Jx Rx hVx hJx hRx ((xs (i + 1).toNat).toInt) (xi_r _) ((xs (i + 2).toNat).toInt) (xi_r _) ((xs (i + 3).toNat).toInt) (xi_r _)) (l1 := []) (l2 := MW cy um Vm Jm Rm) rfl (w2 := fun u54 : Nat → Nat → Int => XW cy ux u54 Jx Rx ++ MW cy um Vm Jm Rm) (fun _ => rfl) rfl wm_yX11_rota wn_X11 wl_L_120 wi_yX11_rota we_yX11_rota hd_yX11_rota rfl ⟨Nat.le_of_ble_eq_true rfl, Nat.le_of_ble_eq_true rfl⟩ (Nat.le_of_ble_eq_true rfl) ⟨Nat.le_of_ble_eq_true rfl, Nat.le_of_ble_eq_true rfl⟩ dL_law_1214 (fun r54 u54 hr54 h54 => ?_)
  obtain ⟨hS54, hBq54, hFq54⟩ := h54
  have hQ54 : XI u54 u54 := XI.toU hS54
  refine x_pop C.1 dL_law_1217 rfl ?_
  refine x_aload_n C.1 dL_law_1218 1 rfl ?_
  refine x_aload_n C.1 dL_law_1219 3 rfl ?_
  refine x_iload_n C.1 dL_law_1220 0 rfl ?_
  refine x_iconst C.1 (n := 1) dL_law_1221 ?_
  refine x_iadd C.1 (v := i + 1) (by omega) dL_law_1222 ?_
  refine x_sld C (b := b) (i := i + 1) hX hbl hbA (by omega) (by omega) dL_law_1223 ?_
  refine x_aload_n C.1 dL_law_1224 3 rfl ?_
  refine x_iload_n C.1 dL_law_1225 0 rfl ?_
  refine x_iconst C.1 (n := 2) dL_law_1226 ?_
  refine x_iadd C.1 (v := i + 2) (by omega) dL_law_1227 ?_
  refine x_sld C (b := b) (i := i + 2) hX hbl hbA (by omega) (by omega) dL_law_1228 ?_
  refine x_aload_n C.1 dL_law_1229 3 rfl ?_
  refine x_iload_n C.1 dL_law_1230 0 rfl ?_
  refine x_iconst C.1 (n := 3) dL_law_1231 ?_
  refine x_iadd C.1 (v := i + 3) (by omega) dL_law_1232 ?_
  refine x_sld C (b := b) (i := i + 3) hX hbl hbA (by omega) (by omega) dL_law_1233 ?_
  refine x_callVi C (As := [vI ((xs (i + 1).toNat).toInt), vI ((xs (i + 2).toNat).toInt), vI ((xs (i + 3).toNat).toInt)]) (rest := []) 129 law_m vc_X12 (m_rota l D cy um Vm Vm Jm Rm hVm hJm trivial ((xs (i + 1).toNat).toInt) (xi_r _) ((xs (i + 2).toNat).toInt) (xi_r _) ((xs (i + 3).toNat).toInt) (xi_r _) hWm) (l1 := XW cy ux u54 Jx Rx) (l2 := []) (List.append_nil _).symm (w2 := fun u55 : Nat → Nat → Int => XW cy ux u54 Jx Rx ++ MW cy um u55 Jm Rm) (fun _ => List.append_nil _) rfl wm_yX12_rota wn_X12 wl_L_123 wi_yX12_rota we_yX12_rota hd_yX12_rota rfl ⟨Nat.le_of_ble_eq_true rfl, Nat.le_of_ble_eq_true rfl⟩ (Nat.le_of_ble_eq_true rfl) ⟨Nat.le_of_ble_eq_true rfl, Nat.le_of_ble_eq_true rfl⟩ dL_law_1234 (fun r55 u55 hr55 h55 => ?_)
  obtain ⟨hS55, hBq55, hFq55⟩ := h55
  have hQ55 : MI u55 u55 := MI.sf hS55
  have hW55 : WP u55 := WP.of hS55 hWm
  have hT55 := t_rota hKk (xi_r _) hFq54 hFq55
  have hKq55 : WR Rx u54 u55 := (hKk.keepT hT55.1 (fun i hi => funext fun k => hBq54 i k (by omega)) (hBq54 0 3 (by omega)) hT55.2 (hBq55.rw 3 (by decide) (by decide)) (hBq55.kt (by decide)) (hBq55.fl 53 (by decide)))
  refine x_pop C.1 dL_law_1237 rfl ?_
  refine x_goto C.1 (tgt := 1495) dL_law_1238 (by decide) ?_
  exact kk u54 Jx Rx u55 Jm Rm ⟨hQ54, hJx, hRx, hQ55, hJm, hW55, hKq55⟩
set_option maxHeartbeats 8000000 in
set_option maxRecDepth 100000 in
theorem law_case_25 {p : Program} {e : Env} {s : State} {m : MethodId} {below : List Frame} {meth : Method} {c : Code} (l : Launch) (D : va_G) (cy : Nat → ClassId) {b L : Nat} {xs : Nat → Int32} (aK aV : Nat → Nat) (C : xC2 p s m #[Value.ref b] meth c D (fun q => s.heap.size ≤ q) s.heap 4 code RL (xTY cy)) (hE : zE aK aV (fun q => s.heap.size ≤ q) s s.heap) (hr : meth.sig.returnType = ret) (hX : va_X b L xs s s.heap) (hbl : b < s.heap.size) (hbA : ¬ (fun q : Nat => s.heap.size ≤ q) b) (hL : L ≤ 3072) (ux um : Nat → Nat) (i : Int) (hi : 0 ≤ i ∧ i + 6 ≤ L) (Vx Jx : Nat → Nat → Int) (Rx : Nat → Nat → Nat) (Vm Jm : Nat → Nat → Int) (Rm : Nat → Nat → Nat) (hLI : LI Vx Jx Rx Vm Jm Rm) (kk : ∀ (Vx Jx : Nat → Nat → Int) (Rx : Nat → Nat → Nat) (Vm Jm : Nat → Nat → Int) (Rm : Nat → Nat → Nat), LI Vx Jx Rx Vm Jm Rm → xW p l e room_1 s m #[Value.ref b] below meth c D (fun q => s.heap.size ≤ q) s.heap 4 162 8366 (lw_Z below #[Value.ref b] s) (XW cy ux Vx Jx Rx ++ MW cy um Vm Jm Rm) 1495 [(3, vI i), (2, .ref (um 0)), (1, .ref (ux 0)), (0, .ref b)] []) : xW p l e room_1 s m #[Value.ref b] below meth c D (fun q => s.heap.size ≤ q) s.heap 4 162 8366 (lw_Z below #[Value.ref b] s) (XW cy ux Vx Jx Rx ++ MW cy um Vm Jm Rm) 1241 [(3, vI i), (2, .ref (um 0)), (1, .ref (ux 0)), (0, .ref b)] [] := by
  obtain ⟨hVx, hJx, hRx, hVm, hJm, hWm, hKk⟩ := hLI
  refine x_aload_n C.1 dL_law_1241 2 rfl ?_
  refine x_aload_n C.1 dL_law_1242 3 rfl ?_
  refine x_iload_n C.1 dL_law_1243 0 rfl ?_
  refine x_iconst C.1 (n := 1) dL_law_1244 ?_
  refine x_iadd C.1 (v := i + 1) (by omega) dL_law_1245 ?_
  refine x_sld C (b := b) (i := i + 1) hX hbl hbA (by omega) (by omega) dL_law_1246 ?_
  refine x_aload_n C.1 dL_law_1247 3 rfl ?_
  refine x_iload_n C.1 dL_law_1248 0 rfl ?_
  refine x_iconst C.1 (n := 2) dL_law_1249 ?_
  refine x_iadd C.1 (v := i + 2) (by omega) dL_law_1250 ?_
  refine x_sld C (b := b) (i := i + 2) hX hbl hbA (by omega) (by omega) dL_law_1251 ?_
  refine x_callVi C (As := [vI ((xs (i + 1).toNat).toInt), vI ((xs (i + 2).toNat).toInt)]) (rest := []) 0 law_x vc_X11 (s_alone l D cy ux Vx Vx Jx Rx hVx hJx hRx ((xs (i + 1).toNat).toInt) (xi_r _) ((xs (i + 2).toNat).toInt) (xi_r _)) (l1 := []) (l2 := MW cy um Vm Jm Rm) rfl (w2 := fun u56 : Nat → Nat → Int => XW cy ux u56 Jx Rx ++ MW cy um Vm Jm Rm) (fun _ => rfl) rfl wm_yX11_alone wn_X11 wl_L_124 wi_yX11_alone we_yX11_alone hd_yX11_alone rfl ⟨Nat.le_of_ble_eq_true rfl, Nat.le_of_ble_eq_true rfl⟩ (Nat.le_of_ble_eq_true rfl) ⟨Nat.le_of_ble_eq_true rfl, Nat.le_of_ble_eq_true rfl⟩ dL_law_1252 (fun r56 u56 hr56 h56 => ?_)
  obtain ⟨hS56, hBq56, hFq56⟩ := h56
  have hQ56 : XI u56 u56 := XI.toU hS56
  refine x_pop C.1 dL_law_1255 rfl ?_
  refine x_aload_n C.1 dL_law_1256 1 rfl ?_
  refine x_aload_n C.1 dL_law_1257 3 rfl ?_
  refine x_iload_n C.1 dL_law_1258 0 rfl ?_
  refine x_iconst C.1 (n := 1) dL_law_1259 ?_
  refine x_iadd C.1 (v := i + 1) (by omega) dL_law_1260 ?_
  refine x_sld C (b := b) (i := i + 1) hX hbl hbA (by omega) (by omega) dL_law_1261 ?_
  refine x_aload_n C.1 dL_law_1262 3 rfl ?_
  refine x_iload_n C.1 dL_law_1263 0 rfl ?_
  refine x_iconst C.1 (n := 2) dL_law_1264 ?_
  refine x_iadd C.1 (v := i + 2) (by omega) dL_law_1265 ?_
  refine x_sld C (b := b) (i := i + 2) hX hbl hbA (by omega) (by omega) dL_law_1266 ?_
  refine x_callVi C (As := [vI ((xs (i + 1).toNat).toInt), vI ((xs (i + 2).toNat).toInt)]) (rest := []) 129 law_m vc_X12 (m_alone l D cy um Vm Vm Jm Rm hVm hJm trivial ((xs (i + 1).toNat).toInt) (xi_r _) ((xs (i + 2).toNat).toInt) (xi_r _) hWm) (l1 := XW cy ux u56 Jx Rx) (l2 := []) (List.append_nil _).symm (w2 := fun u57 : Nat → Nat → Int => XW cy ux u56 Jx Rx ++ MW cy um u57 Jm Rm) (fun _ => List.append_nil _) rfl wm_yX12_alone wn_X12 wl_L_127 wi_yX12_alone we_yX12_alone hd_yX12_alone rfl ⟨Nat.le_of_ble_eq_true rfl, Nat.le_of_ble_eq_true rfl⟩ (Nat.le_of_ble_eq_true rfl) ⟨Nat.le_of_ble_eq_true rfl, Nat.le_of_ble_eq_true rfl⟩ dL_law_1267 (fun r57 u57 hr57 h57 => ?_)
  obtain ⟨hS57, hBq57, hFq57⟩ := h57
  have hQ57 : MI u57 u57 := MI.sf hS57
  have hW57 : WP u57 := WP.of hS57 hWm
  have hKq57 : WR Rx u56 u57 := (hKk.keepT (hKk.tp (hBq56 58 1 (by omega)) (funext fun k => hBq56 59 k (by omega)) (hBq57.fl 4 (by decide)) (hBq57.rw 4 (by decide) (by decide))) (fun i hi => funext fun k => hBq56 i k (by omega)) (hBq56 0 3 (by omega)) (fun k _ => congrFun (hBq57.rw 1 (by decide) (by decide)) k) (hBq57.rw 3 (by decide) (by decide)) (hBq57.kt (by decide)) (hBq57.fl 53 (by decide)))
  refine x_pop C.1 dL_law_1270 rfl ?_
  refine x_goto C.1 (tgt := 1495) dL_law_1271 (by decide) ?_
  exact kk u56 Jx Rx u57 Jm Rm ⟨hQ56, hJx, hRx, hQ57, hJm, hW57, hKq57⟩
set_option maxHeartbeats 8000000 in
set_option maxRecDepth 100000 in
theorem law_case_26 {p : Program} {e : Env} {s : State} {m : MethodId} {below : List Frame} {meth : Method} {c : Code} (l : Launch) (D : va_G) (cy : Nat → ClassId) {b L : Nat} {xs : Nat → Int32} (aK aV : Nat → Nat) (C : xC2 p s m #[Value.ref b] meth c D (fun q => s.heap.size ≤ q) s.heap 4 code RL (xTY cy)) (hE : zE aK aV (fun q => s.heap.size ≤ q) s s.heap) (hr : meth.sig.returnType = ret) (hX : va_X b L xs s s.heap) (hbl : b < s.heap.size) (hbA : ¬ (fun q : Nat => s.heap.size ≤ q) b) (hL : L ≤ 3072) (ux um : Nat → Nat) (i : Int) (hi : 0 ≤ i ∧ i + 6 ≤ L) (Vx Jx : Nat → Nat → Int) (Rx : Nat → Nat → Nat) (Vm Jm : Nat → Nat → Int) (Rm : Nat → Nat → Nat) (hLI : LI Vx Jx Rx Vm Jm Rm) (kk : ∀ (Vx Jx : Nat → Nat → Int) (Rx : Nat → Nat → Nat) (Vm Jm : Nat → Nat → Int) (Rm : Nat → Nat → Nat), LI Vx Jx Rx Vm Jm Rm → xW p l e room_1 s m #[Value.ref b] below meth c D (fun q => s.heap.size ≤ q) s.heap 4 162 8366 (lw_Z below #[Value.ref b] s) (XW cy ux Vx Jx Rx ++ MW cy um Vm Jm Rm) 1495 [(3, vI i), (2, .ref (um 0)), (1, .ref (ux 0)), (0, .ref b)] []) : xW p l e room_1 s m #[Value.ref b] below meth c D (fun q => s.heap.size ≤ q) s.heap 4 162 8366 (lw_Z below #[Value.ref b] s) (XW cy ux Vx Jx Rx ++ MW cy um Vm Jm Rm) 1274 [(3, vI i), (2, .ref (um 0)), (1, .ref (ux 0)), (0, .ref b)] [] := by
  obtain ⟨hVx, hJx, hRx, hVm, hJm, hWm, hKk⟩ := hLI
  refine x_aload_n C.1 dL_law_1274 2 rfl ?_
  refine x_aload_n C.1 dL_law_1275 3 rfl ?_
  refine x_iload_n C.1 dL_law_1276 0 rfl ?_
  refine x_iconst C.1 (n := 1) dL_law_1277 ?_
  refine x_iadd C.1 (v := i + 1) (by omega) dL_law_1278 ?_
  refine x_sld C (b := b) (i := i + 1) hX hbl hbA (by omega) (by omega) dL_law_1279 ?_
  refine x_aload_n C.1 dL_law_1280 3 rfl ?_
  refine x_iload_n C.1 dL_law_1281 0 rfl ?_
  refine x_iconst C.1 (n := 2) dL_law_1282 ?_
  refine x_iadd C.1 (v := i + 2) (by omega) dL_law_1283 ?_
  refine x_sld C (b := b) (i := i + 2) hX hbl hbA (by omega) (by omega) dL_law_1284 ?_
  refine x_aload_n C.1 dL_law_1285 3 rfl ?_
  refine x_iload_n C.1 dL_law_1286 0 rfl ?_
  refine x_iconst C.1 (n := 3) dL_law_1287 ?_
  refine x_iadd C.1 (v := i + 3) (by omega) dL_law_1288 ?_
  refine x_sld C (b := b) (i := i + 3) hX hbl hbA (by omega) (by omega) dL_law_1289 ?_
  refine x_aload_n C.1 dL_law_1290 3 rfl ?_
  refine x_iload_n C.1 dL_law_1291 0 rfl ?_
  refine x_iconst C.1 (n := 4) dL_law_1292 ?_
  refine x_iadd C.1 (v := i + 4) (by omega) dL_law_1293 ?_
  refine x_sld C (b := b) (i := i + 4) hX hbl hbA (by omega) (by omega) dL_law_1294 ?_
  refine x_aload_n C.1 dL_law_1295 3 rfl ?_
  refine x_iload_n C.1 dL_law_1296 0 rfl ?_
  refine x_iconst C.1 (n := 5) dL_law_1297 ?_
  refine x_iadd C.1 (v := i + 5) (by omega) dL_law_1298 ?_
  refine x_sld C (b := b) (i := i + 5) hX hbl hbA (by omega) (by omega) dL_law_1299 ?_
  refine x_callVl C (As := [vI ((xs (i + 1).toNat).toInt), vI ((xs (i + 2).toNat).toInt), vI ((xs (i + 3).toNat).toInt), vI ((xs (i + 4).toNat).toInt), vI ((xs (i + 5).toNat).toInt)]) (rest := []) 0 law_x vc_X11 (s_whoDid l D cy ux Vx Vx Jx Rx hVx hJx hRx ((xs (i + 1).toNat).toInt) (xi_r _) ((xs (i + 2).toNat).toInt) (xi_r _) ((xs (i + 3).toNat).toInt) (xi_r _) ((xs (i + 4).toNat).toInt) (xi_r _) ((xs (i + 5).toNat).toInt) (xi_r _)) (l1 := []) (l2 := MW cy um Vm Jm Rm) rfl (w2 := fun u58 : Nat → Nat → Int => XW cy ux u58 Jx Rx ++ MW cy um Vm Jm Rm) (fun _ => rfl) rfl wm_yX11_whoDid wn_X11 wl_L_128 wi_yX11_whoDid we_yX11_whoDid hd_yX11_whoDid rfl ⟨Nat.le_of_ble_eq_true rfl, Nat.le_of_ble_eq_true rfl⟩ (Nat.le_of_ble_eq_true rfl) ⟨Nat.le_of_ble_eq_true rfl, Nat.le_of_ble_eq_true rfl⟩ dL_law_1300 (fun r58 u58 hr58 h58 => ?_)
  obtain ⟨hS58, hBq58, hFq58⟩ := h58
  have hQ58 : XI u58 u58 := XI.toU hS58
  refine x_pop2 C.1 dL_law_1303 rfl ?_
  refine x_aload_n C.1 dL_law_1304 1 rfl ?_
  refine x_aload_n C.1 dL_law_1305 3 rfl ?_
  refine x_iload_n C.1 dL_law_1306 0 rfl ?_
  refine x_iconst C.1 (n := 1) dL_law_1307 ?_
  refine x_iadd C.1 (v := i + 1) (by omega) dL_law_1308 ?_
  refine x_sld C (b := b) (i := i + 1) hX hbl hbA (by omega) (by omega) dL_law_1309 ?_
  refine x_aload_n C.1 dL_law_1310 3 rfl ?_
  refine x_iload_n C.1 dL_law_1311 0 rfl ?_
  refine x_iconst C.1 (n := 2) dL_law_1312 ?_
  refine x_iadd C.1 (v := i + 2) (by omega) dL_law_1313 ?_
  refine x_sld C (b := b) (i := i + 2) hX hbl hbA (by omega) (by omega) dL_law_1314 ?_
  refine x_aload_n C.1 dL_law_1315 3 rfl ?_
  refine x_iload_n C.1 dL_law_1316 0 rfl ?_
  refine x_iconst C.1 (n := 3) dL_law_1317 ?_
  refine x_iadd C.1 (v := i + 3) (by omega) dL_law_1318 ?_
  refine x_sld C (b := b) (i := i + 3) hX hbl hbA (by omega) (by omega) dL_law_1319 ?_
  refine x_aload_n C.1 dL_law_1320 3 rfl ?_
  refine x_iload_n C.1 dL_law_1321 0 rfl ?_
  refine x_iconst C.1 (n := 4) dL_law_1322 ?_
  refine x_iadd C.1 (v := i + 4) (by omega) dL_law_1323 ?_
  refine x_sld C (b := b) (i := i + 4) hX hbl hbA (by omega) (by omega) dL_law_1324 ?_
  refine x_aload_n C.1 dL_law_1325 3 rfl ?_
  refine x_iload_n C.1 dL_law_1326 0 rfl ?_
  refine x_iconst C.1 (n := 5) dL_law_1327 ?_
  refine x_iadd C.1 (v := i + 5) (by omega) dL_law_1328 ?_
  refine x_sld C (b := b) (i := i + 5) hX hbl hbA (by omega) (by omega) dL_law_1329 ?_
  refine x_callVl C (As := [vI ((xs (i + 1).toNat).toInt), vI ((xs (i + 2).toNat).toInt), vI ((xs (i + 3).toNat).toInt), vI ((xs (i + 4).toNat).toInt), vI ((xs (i + 5).toNat).toInt)]) (rest := []) 129 law_m vc_X12 (m_whoDid l D cy um Vm Vm Jm Rm hVm hJm trivial ((xs (i + 1).toNat).toInt) (xi_r _) ((xs (i + 2).toNat).toInt) (xi_r _) ((xs (i + 3).toNat).toInt) (xi_r _) ((xs (i + 4).toNat).toInt) (xi_r _) ((xs (i + 5).toNat).toInt) (xi_r _)) (l1 := XW cy ux u58 Jx Rx) (l2 := []) (List.append_nil _).symm (w2 := fun u59 : Nat → Nat → Int => XW cy ux u58 Jx Rx ++ MW cy um u59 Jm Rm) (fun _ => List.append_nil _) rfl wm_yX12_whoDid wn_X12 wl_L_131 wi_yX12_whoDid we_yX12_whoDid hd_yX12_whoDid rfl ⟨Nat.le_of_ble_eq_true rfl, Nat.le_of_ble_eq_true rfl⟩ (Nat.le_of_ble_eq_true rfl) ⟨Nat.le_of_ble_eq_true rfl, Nat.le_of_ble_eq_true rfl⟩ dL_law_1330 (fun r59 u59 hr59 h59 => ?_)
  obtain ⟨hS59, hBq59, hFq59⟩ := h59
  have hQ59 : MI u59 u59 := MI.sf hS59
  have hW59 : WP u59 := WP.of hS59 hWm
  have hKq59 : WR Rx u58 u59 := (hKk.keepT (t_whoDid hKk.2.2.2.2 hFq58 hFq59) (fun i hi => funext fun k => hBq58 i k (by omega)) (hBq58 0 3 (by omega)) (fun k _ => congrFun (hBq59.rw 1 (by decide) (by decide)) k) (hBq59.rw 3 (by decide) (by decide)) (hBq59.kt (by decide)) (hBq59.fl 53 (by decide)))
  refine x_pop2 C.1 dL_law_1333 rfl ?_
  refine x_goto C.1 (tgt := 1495) dL_law_1334 (by decide) ?_
  exact kk u58 Jx Rx u59 Jm Rm ⟨hQ58, hJx, hRx, hQ59, hJm, hW59, hKq59⟩
set_option maxHeartbeats 8000000 in
set_option maxRecDepth 100000 in
theorem law_case_27 {p : Program} {e : Env} {s : State} {m : MethodId} {below : List Frame} {meth : Method} {c : Code} (l : Launch) (D : va_G) (cy : Nat → ClassId) {b L : Nat} {xs : Nat → Int32} (aK aV : Nat → Nat) (C : xC2 p s m #[Value.ref b] meth c D (fun q => s.heap.size ≤ q) s.heap 4 code RL (xTY cy)) (hE : zE aK aV (fun q => s.heap.size ≤ q) s s.heap) (hr : meth.sig.returnType = ret) (hX : va_X b L xs s s.heap) (hbl : b < s.heap.size) (hbA : ¬ (fun q : Nat => s.heap.size ≤ q) b) (hL : L ≤ 3072) (ux um : Nat → Nat) (i : Int) (hi : 0 ≤ i ∧ i + 6 ≤ L) (Vx Jx : Nat → Nat → Int) (Rx : Nat → Nat → Nat) (Vm Jm : Nat → Nat → Int) (Rm : Nat → Nat → Nat) (hLI : LI Vx Jx Rx Vm Jm Rm) (kk : ∀ (Vx Jx : Nat → Nat → Int) (Rx : Nat → Nat → Nat) (Vm Jm : Nat → Nat → Int) (Rm : Nat → Nat → Nat), LI Vx Jx Rx Vm Jm Rm → xW p l e room_1 s m #[Value.ref b] below meth c D (fun q => s.heap.size ≤ q) s.heap 4 162 8366 (lw_Z below #[Value.ref b] s) (XW cy ux Vx Jx Rx ++ MW cy um Vm Jm Rm) 1495 [(3, vI i), (2, .ref (um 0)), (1, .ref (ux 0)), (0, .ref b)] []) : xW p l e room_1 s m #[Value.ref b] below meth c D (fun q => s.heap.size ≤ q) s.heap 4 162 8366 (lw_Z below #[Value.ref b] s) (XW cy ux Vx Jx Rx ++ MW cy um Vm Jm Rm) 1337 [(3, vI i), (2, .ref (um 0)), (1, .ref (ux 0)), (0, .ref b)] [] := by
  obtain ⟨hVx, hJx, hRx, hVm, hJm, hWm, hKk⟩ := hLI
  refine x_aload_n C.1 dL_law_1337 2 rfl ?_
  refine x_aload_n C.1 dL_law_1338 3 rfl ?_
  refine x_iload_n C.1 dL_law_1339 0 rfl ?_
  refine x_iconst C.1 (n := 1) dL_law_1340 ?_
  refine x_iadd C.1 (v := i + 1) (by omega) dL_law_1341 ?_
  refine x_sld C (b := b) (i := i + 1) hX hbl hbA (by omega) (by omega) dL_law_1342 ?_
  refine x_aload_n C.1 dL_law_1343 3 rfl ?_
  refine x_iload_n C.1 dL_law_1344 0 rfl ?_
  refine x_iconst C.1 (n := 2) dL_law_1345 ?_
  refine x_iadd C.1 (v := i + 2) (by omega) dL_law_1346 ?_
  refine x_sld C (b := b) (i := i + 2) hX hbl hbA (by omega) (by omega) dL_law_1347 ?_
  refine x_aload_n C.1 dL_law_1348 3 rfl ?_
  refine x_iload_n C.1 dL_law_1349 0 rfl ?_
  refine x_iconst C.1 (n := 3) dL_law_1350 ?_
  refine x_iadd C.1 (v := i + 3) (by omega) dL_law_1351 ?_
  refine x_sld C (b := b) (i := i + 3) hX hbl hbA (by omega) (by omega) dL_law_1352 ?_
  refine x_aload_n C.1 dL_law_1353 3 rfl ?_
  refine x_iload_n C.1 dL_law_1354 0 rfl ?_
  refine x_iconst C.1 (n := 4) dL_law_1355 ?_
  refine x_iadd C.1 (v := i + 4) (by omega) dL_law_1356 ?_
  refine x_sld C (b := b) (i := i + 4) hX hbl hbA (by omega) (by omega) dL_law_1357 ?_
  refine x_callVl C (As := [vI ((xs (i + 1).toNat).toInt), vI ((xs (i + 2).toNat).toInt), vI ((xs (i + 3).toNat).toInt), vI ((xs (i + 4).toNat).toInt)]) (rest := []) 0 law_x vc_X11 (s_can l D cy ux Vx Vx Jx Rx hVx hJx hRx ((xs (i + 1).toNat).toInt) (xi_r _) ((xs (i + 2).toNat).toInt) (xi_r _) ((xs (i + 3).toNat).toInt) (xi_r _) ((xs (i + 4).toNat).toInt) (xi_r _)) (l1 := []) (l2 := MW cy um Vm Jm Rm) rfl (w2 := fun u60 : xS => XW cy ux u60.1 u60.2.1 u60.2.2 ++ MW cy um Vm Jm Rm) (fun _ => rfl) rfl wm_yX11_can wn_X11 wl_L_132 wi_yX11_can we_yX11_can hd_yX11_can rfl ⟨Nat.le_of_ble_eq_true rfl, Nat.le_of_ble_eq_true rfl⟩ (Nat.le_of_ble_eq_true rfl) ⟨Nat.le_of_ble_eq_true rfl, Nat.le_of_ble_eq_true rfl⟩ dL_law_1358 (fun r60 u60 hr60 h60 => ?_)
  obtain ⟨hS60, hBq60, hRq60, hFq60⟩ := h60
  obtain ⟨V60, J60, R60⟩ := u60
  obtain ⟨hI60, hJ60, hR60⟩ := hS60
  dsimp only at hI60 hJ60 hR60 ⊢
  have hQ60 : XI V60 V60 := XI.toU hI60
  refine x_pop2 C.1 dL_law_1361 rfl ?_
  refine x_aload_n C.1 dL_law_1362 1 rfl ?_
  refine x_aload_n C.1 dL_law_1363 3 rfl ?_
  refine x_iload_n C.1 dL_law_1364 0 rfl ?_
  refine x_iconst C.1 (n := 1) dL_law_1365 ?_
  refine x_iadd C.1 (v := i + 1) (by omega) dL_law_1366 ?_
  refine x_sld C (b := b) (i := i + 1) hX hbl hbA (by omega) (by omega) dL_law_1367 ?_
  refine x_aload_n C.1 dL_law_1368 3 rfl ?_
  refine x_iload_n C.1 dL_law_1369 0 rfl ?_
  refine x_iconst C.1 (n := 2) dL_law_1370 ?_
  refine x_iadd C.1 (v := i + 2) (by omega) dL_law_1371 ?_
  refine x_sld C (b := b) (i := i + 2) hX hbl hbA (by omega) (by omega) dL_law_1372 ?_
  refine x_aload_n C.1 dL_law_1373 3 rfl ?_
  refine x_iload_n C.1 dL_law_1374 0 rfl ?_
  refine x_iconst C.1 (n := 3) dL_law_1375 ?_
  refine x_iadd C.1 (v := i + 3) (by omega) dL_law_1376 ?_
  refine x_sld C (b := b) (i := i + 3) hX hbl hbA (by omega) (by omega) dL_law_1377 ?_
  refine x_aload_n C.1 dL_law_1378 3 rfl ?_
  refine x_iload_n C.1 dL_law_1379 0 rfl ?_
  refine x_iconst C.1 (n := 4) dL_law_1380 ?_
  refine x_iadd C.1 (v := i + 4) (by omega) dL_law_1381 ?_
  refine x_sld C (b := b) (i := i + 4) hX hbl hbA (by omega) (by omega) dL_law_1382 ?_
  refine x_callVl C (As := [vI ((xs (i + 1).toNat).toInt), vI ((xs (i + 2).toNat).toInt), vI ((xs (i + 3).toNat).toInt), vI ((xs (i + 4).toNat).toInt)]) (rest := []) 129 law_m vc_X12 (m_can l D cy um Vm Vm Jm Rm hVm hJm trivial ((xs (i + 1).toNat).toInt) (xi_r _) ((xs (i + 2).toNat).toInt) (xi_r _) ((xs (i + 3).toNat).toInt) (xi_r _) ((xs (i + 4).toNat).toInt) (xi_r _)) (l1 := XW cy ux V60 J60 R60) (l2 := []) (List.append_nil _).symm (w2 := fun u61 : xS => XW cy ux V60 J60 R60 ++ MW cy um u61.1 u61.2.1 u61.2.2) (fun _ => List.append_nil _) rfl wm_yX12_can wn_X12 wl_L_135 wi_yX12_can we_yX12_can hd_yX12_can rfl ⟨Nat.le_of_ble_eq_true rfl, Nat.le_of_ble_eq_true rfl⟩ (Nat.le_of_ble_eq_true rfl) ⟨Nat.le_of_ble_eq_true rfl, Nat.le_of_ble_eq_true rfl⟩ dL_law_1383 (fun r61 u61 hr61 h61 => ?_)
  obtain ⟨hS61, hBq61, hFq61⟩ := h61
  obtain ⟨V61, J61, R61⟩ := u61
  obtain ⟨hI61, hJ61, hR61⟩ := hS61
  dsimp only at hI61 hJ61 hR61 ⊢
  have hQ61 : MI V61 V61 := MI.sf hI61
  have hW61 : WP V61 := WP.of hI61 hWm
  have hKq61 : WR R60 V60 V61 := (hKk.keepT (t_can hKk.2.2.2.2 hFq60 hFq61) (fun i hi => funext fun k => hBq60 i k (by omega)) (hBq60 0 3 (by omega)) (fun k _ => congrFun (hBq61.rw 1 (by decide) (by decide)) k) (hBq61.rw 3 (by decide) (by decide)) (hBq61.kt (by decide)) (hBq61.fl 53 (by decide))).rk hRq60
  refine x_pop2 C.1 dL_law_1386 rfl ?_
  refine x_goto C.1 (tgt := 1495) dL_law_1387 (by decide) ?_
  exact kk V60 J60 R60 V61 J61 R61 ⟨hQ60, hJ60, hR60, hQ61, hJ61, hW61, hKq61⟩
set_option maxHeartbeats 8000000 in
set_option maxRecDepth 100000 in
theorem law_case_28 {p : Program} {e : Env} {s : State} {m : MethodId} {below : List Frame} {meth : Method} {c : Code} (l : Launch) (D : va_G) (cy : Nat → ClassId) {b L : Nat} {xs : Nat → Int32} (aK aV : Nat → Nat) (C : xC2 p s m #[Value.ref b] meth c D (fun q => s.heap.size ≤ q) s.heap 4 code RL (xTY cy)) (hE : zE aK aV (fun q => s.heap.size ≤ q) s s.heap) (hr : meth.sig.returnType = ret) (hX : va_X b L xs s s.heap) (hbl : b < s.heap.size) (hbA : ¬ (fun q : Nat => s.heap.size ≤ q) b) (hL : L ≤ 3072) (ux um : Nat → Nat) (i : Int) (hi : 0 ≤ i ∧ i + 6 ≤ L) (Vx Jx : Nat → Nat → Int) (Rx : Nat → Nat → Nat) (Vm Jm : Nat → Nat → Int) (Rm : Nat → Nat → Nat) (hLI : LI Vx Jx Rx Vm Jm Rm) (kk : ∀ (Vx Jx : Nat → Nat → Int) (Rx : Nat → Nat → Nat) (Vm Jm : Nat → Nat → Int) (Rm : Nat → Nat → Nat), LI Vx Jx Rx Vm Jm Rm → xW p l e room_1 s m #[Value.ref b] below meth c D (fun q => s.heap.size ≤ q) s.heap 4 162 8366 (lw_Z below #[Value.ref b] s) (XW cy ux Vx Jx Rx ++ MW cy um Vm Jm Rm) 1495 [(3, vI i), (2, .ref (um 0)), (1, .ref (ux 0)), (0, .ref b)] []) : xW p l e room_1 s m #[Value.ref b] below meth c D (fun q => s.heap.size ≤ q) s.heap 4 162 8366 (lw_Z below #[Value.ref b] s) (XW cy ux Vx Jx Rx ++ MW cy um Vm Jm Rm) 1390 [(3, vI i), (2, .ref (um 0)), (1, .ref (ux 0)), (0, .ref b)] [] := by
  obtain ⟨hVx, hJx, hRx, hVm, hJm, hWm, hKk⟩ := hLI
  refine x_aload_n C.1 dL_law_1390 2 rfl ?_
  refine x_aload_n C.1 dL_law_1391 3 rfl ?_
  refine x_iload_n C.1 dL_law_1392 0 rfl ?_
  refine x_iconst C.1 (n := 1) dL_law_1393 ?_
  refine x_iadd C.1 (v := i + 1) (by omega) dL_law_1394 ?_
  refine x_sld C (b := b) (i := i + 1) hX hbl hbA (by omega) (by omega) dL_law_1395 ?_
  refine x_callVi C (As := [vI ((xs (i + 1).toNat).toInt)]) (rest := []) 0 law_x vc_X11 (s_seed l D cy ux Vx Vx Jx Rx hVx hJx hRx ((xs (i + 1).toNat).toInt) (xi_r _)) (l1 := []) (l2 := MW cy um Vm Jm Rm) rfl (w2 := fun u62 : Nat → Nat → Int => XW cy ux u62 Jx Rx ++ MW cy um Vm Jm Rm) (fun _ => rfl) rfl wm_yX11_seed wn_X11 wl_L_136 wi_yX11_seed we_yX11_seed hd_yX11_seed rfl ⟨Nat.le_of_ble_eq_true rfl, Nat.le_of_ble_eq_true rfl⟩ (Nat.le_of_ble_eq_true rfl) ⟨Nat.le_of_ble_eq_true rfl, Nat.le_of_ble_eq_true rfl⟩ dL_law_1396 (fun r62 u62 hr62 h62 => ?_)
  obtain ⟨hS62, he62_0, hBq62, hFq62⟩ := h62
  have hQ62 : XI u62 u62 := XI.toU hS62
  refine x_pop C.1 dL_law_1399 rfl ?_
  refine x_aload_n C.1 dL_law_1400 1 rfl ?_
  refine x_aload_n C.1 dL_law_1401 3 rfl ?_
  refine x_iload_n C.1 dL_law_1402 0 rfl ?_
  refine x_iconst C.1 (n := 1) dL_law_1403 ?_
  refine x_iadd C.1 (v := i + 1) (by omega) dL_law_1404 ?_
  refine x_sld C (b := b) (i := i + 1) hX hbl hbA (by omega) (by omega) dL_law_1405 ?_
  refine x_callVi C (As := [vI ((xs (i + 1).toNat).toInt)]) (rest := []) 129 law_m vc_X12 (m_seed l D cy um Vm Vm Jm Rm hVm hJm trivial ((xs (i + 1).toNat).toInt) (xi_r _)) (l1 := XW cy ux u62 Jx Rx) (l2 := []) (List.append_nil _).symm (w2 := fun u63 : Nat → Nat → Int => XW cy ux u62 Jx Rx ++ MW cy um u63 Jm Rm) (fun _ => List.append_nil _) rfl wm_yX12_seed wn_X12 wl_L_140 wi_yX12_seed we_yX12_seed hd_yX12_seed rfl ⟨Nat.le_of_ble_eq_true rfl, Nat.le_of_ble_eq_true rfl⟩ (Nat.le_of_ble_eq_true rfl) ⟨Nat.le_of_ble_eq_true rfl, Nat.le_of_ble_eq_true rfl⟩ dL_law_1406 (fun r63 u63 hr63 h63 => ?_)
  obtain ⟨hS63, he63_0, hBq63, hFq63⟩ := h63
  have hQ63 : MI u63 u63 := MI.sf hS63
  have hW63 : WP u63 := WP.of hS63 hWm
  have hL63 := w_seed hKk hFq62 hFq63
  have hKq63 : WR Rx u62 u63 := hL63.2
  have hA63 := hL63.1
  refine x_pop C.1 dL_law_1409 rfl ?_
  refine x_goto C.1 (tgt := 1495) dL_law_1410 (by decide) ?_
  exact kk u62 Jx Rx u63 Jm Rm ⟨hQ62, hJx, hRx, hQ63, hJm, hW63, hKq63⟩
set_option maxHeartbeats 8000000 in
set_option maxRecDepth 100000 in
theorem law_case_29 {p : Program} {e : Env} {s : State} {m : MethodId} {below : List Frame} {meth : Method} {c : Code} (l : Launch) (D : va_G) (cy : Nat → ClassId) {b L : Nat} {xs : Nat → Int32} (aK aV : Nat → Nat) (C : xC2 p s m #[Value.ref b] meth c D (fun q => s.heap.size ≤ q) s.heap 4 code RL (xTY cy)) (hE : zE aK aV (fun q => s.heap.size ≤ q) s s.heap) (hr : meth.sig.returnType = ret) (hX : va_X b L xs s s.heap) (hbl : b < s.heap.size) (hbA : ¬ (fun q : Nat => s.heap.size ≤ q) b) (hL : L ≤ 3072) (ux um : Nat → Nat) (i : Int) (hi : 0 ≤ i ∧ i + 6 ≤ L) (Vx Jx : Nat → Nat → Int) (Rx : Nat → Nat → Nat) (Vm Jm : Nat → Nat → Int) (Rm : Nat → Nat → Nat) (hLI : LI Vx Jx Rx Vm Jm Rm) (kk : ∀ (Vx Jx : Nat → Nat → Int) (Rx : Nat → Nat → Nat) (Vm Jm : Nat → Nat → Int) (Rm : Nat → Nat → Nat), LI Vx Jx Rx Vm Jm Rm → xW p l e room_1 s m #[Value.ref b] below meth c D (fun q => s.heap.size ≤ q) s.heap 4 162 8366 (lw_Z below #[Value.ref b] s) (XW cy ux Vx Jx Rx ++ MW cy um Vm Jm Rm) 1495 [(3, vI i), (2, .ref (um 0)), (1, .ref (ux 0)), (0, .ref b)] []) : xW p l e room_1 s m #[Value.ref b] below meth c D (fun q => s.heap.size ≤ q) s.heap 4 162 8366 (lw_Z below #[Value.ref b] s) (XW cy ux Vx Jx Rx ++ MW cy um Vm Jm Rm) 1413 [(3, vI i), (2, .ref (um 0)), (1, .ref (ux 0)), (0, .ref b)] [] := by
  obtain ⟨hVx, hJx, hRx, hVm, hJm, hWm, hKk⟩ := hLI
  refine x_aload_n C.1 dL_law_1413 2 rfl ?_
  refine x_callVi C (As := []) (rest := []) 0 law_x vc_X11 (s_keep l D cy ux Vx Vx Jx Rx hVx hJx hRx ) (l1 := []) (l2 := MW cy um Vm Jm Rm) rfl (w2 := fun u64 : Nat → Nat → Int => XW cy ux u64 Jx Rx ++ MW cy um Vm Jm Rm) (fun _ => rfl) rfl wm_yX11_keep wn_X11 wl_L_141 wi_yX11_keep we_yX11_keep hd_yX11_keep rfl ⟨Nat.le_of_ble_eq_true rfl, Nat.le_of_ble_eq_true rfl⟩ (Nat.le_of_ble_eq_true rfl) ⟨Nat.le_of_ble_eq_true rfl, Nat.le_of_ble_eq_true rfl⟩ dL_law_1414 (fun r64 u64 hr64 h64 => ?_)
  obtain ⟨hS64, he64_0, hBq64, hFq64⟩ := h64
  have hQ64 : XI u64 u64 := hS64
  refine x_pop C.1 dL_law_1417 rfl ?_
  refine x_aload_n C.1 dL_law_1418 1 rfl ?_
  refine x_callVi C (As := []) (rest := []) 129 law_m vc_X12 (m_keep l D cy um Vm Vm Jm Rm hVm hJm trivial ) (l1 := XW cy ux u64 Jx Rx) (l2 := []) (List.append_nil _).symm (w2 := fun u65 : Nat → Nat → Int => XW cy ux u64 Jx Rx ++ MW cy um u65 Jm Rm) (fun _ => List.append_nil _) rfl wm_yX12_keep wn_X12 wl_L_145 wi_yX12_keep we_yX12_keep hd_yX12_keep rfl ⟨Nat.le_of_ble_eq_true rfl, Nat.le_of_ble_eq_true rfl⟩ (Nat.le_of_ble_eq_true rfl) ⟨Nat.le_of_ble_eq_true rfl, Nat.le_of_ble_eq_true rfl⟩ dL_law_1419 (fun r65 u65 hr65 h65 => ?_)
  obtain ⟨hS65, he65_0, hBq65, hFq65⟩ := h65
  have hQ65 : MI u65 u65 := MI.sf hS65
  have hW65 : WP u65 := WP.of hS65 (WP.k53 hWm)
  have hKq65 : WR Rx u64 u65 := (w_keep hKk hFq64 hFq65).1
  refine x_pop C.1 dL_law_1422 rfl ?_
  refine x_goto C.1 (tgt := 1495) dL_law_1423 (by decide) ?_
  exact kk u64 Jx Rx u65 Jm Rm ⟨hQ64, hJx, hRx, hQ65, hJm, hW65, hKq65⟩
set_option maxHeartbeats 8000000 in
set_option maxRecDepth 100000 in
theorem law_case_30 {p : Program} {e : Env} {s : State} {m : MethodId} {below : List Frame} {meth : Method} {c : Code} (l : Launch) (D : va_G) (cy : Nat → ClassId) {b L : Nat} {xs : Nat → Int32} (aK aV : Nat → Nat) (C : xC2 p s m #[Value.ref b] meth c D (fun q => s.heap.size ≤ q) s.heap 4 code RL (xTY cy)) (hE : zE aK aV (fun q => s.heap.size ≤ q) s s.heap) (hr : meth.sig.returnType = ret) (hX : va_X b L xs s s.heap) (hbl : b < s.heap.size) (hbA : ¬ (fun q : Nat => s.heap.size ≤ q) b) (hL : L ≤ 3072) (ux um : Nat → Nat) (i : Int) (hi : 0 ≤ i ∧ i + 6 ≤ L) (Vx Jx : Nat → Nat → Int) (Rx : Nat → Nat → Nat) (Vm Jm : Nat → Nat → Int) (Rm : Nat → Nat → Nat) (hLI : LI Vx Jx Rx Vm Jm Rm) (kk : ∀ (Vx Jx : Nat → Nat → Int) (Rx : Nat → Nat → Nat) (Vm Jm : Nat → Nat → Int) (Rm : Nat → Nat → Nat), LI Vx Jx Rx Vm Jm Rm → xW p l e room_1 s m #[Value.ref b] below meth c D (fun q => s.heap.size ≤ q) s.heap 4 162 8366 (lw_Z below #[Value.ref b] s) (XW cy ux Vx Jx Rx ++ MW cy um Vm Jm Rm) 1495 [(3, vI i), (2, .ref (um 0)), (1, .ref (ux 0)), (0, .ref b)] []) : xW p l e room_1 s m #[Value.ref b] below meth c D (fun q => s.heap.size ≤ q) s.heap 4 162 8366 (lw_Z below #[Value.ref b] s) (XW cy ux Vx Jx Rx ++ MW cy um Vm Jm Rm) 1426 [(3, vI i), (2, .ref (um 0)), (1, .ref (ux 0)), (0, .ref b)] [] := by
  obtain ⟨hVx, hJx, hRx, hVm, hJm, hWm, hKk⟩ := hLI
  refine x_aload_n C.1 dL_law_1426 2 rfl ?_
  refine x_callVi C (As := []) (rest := []) 0 law_x vc_X11 (s_undo l D cy ux Vx Vx Jx Rx hVx hJx hRx ) (l1 := []) (l2 := MW cy um Vm Jm Rm) rfl (w2 := fun u66 : Nat → Nat → Int => XW cy ux u66 Jx Rx ++ MW cy um Vm Jm Rm) (fun _ => rfl) rfl wm_yX11_undo wn_X11 wl_L_146 wi_yX11_undo we_yX11_undo hd_yX11_undo rfl ⟨Nat.le_of_ble_eq_true rfl, Nat.le_of_ble_eq_true rfl⟩ (Nat.le_of_ble_eq_true rfl) ⟨Nat.le_of_ble_eq_true rfl, Nat.le_of_ble_eq_true rfl⟩ dL_law_1427 (fun r66 u66 hr66 h66 => ?_)
  obtain ⟨hS66, he66_0, hBq66, hFq66⟩ := h66
  have hQ66 : XI u66 u66 := hS66
  refine x_pop C.1 dL_law_1430 rfl ?_
  refine x_aload_n C.1 dL_law_1431 1 rfl ?_
  refine x_callVi C (As := []) (rest := []) 129 law_m vc_X12 (m_undo l D cy um Vm Vm Jm Rm hVm hJm trivial ) (l1 := XW cy ux u66 Jx Rx) (l2 := []) (List.append_nil _).symm (w2 := fun u67 : Nat → Nat → Int => XW cy ux u66 Jx Rx ++ MW cy um u67 Jm Rm) (fun _ => List.append_nil _) rfl wm_yX12_undo wn_X12 wl_L_150 wi_yX12_undo we_yX12_undo hd_yX12_undo rfl ⟨Nat.le_of_ble_eq_true rfl, Nat.le_of_ble_eq_true rfl⟩ (Nat.le_of_ble_eq_true rfl) ⟨Nat.le_of_ble_eq_true rfl, Nat.le_of_ble_eq_true rfl⟩ dL_law_1432 (fun r67 u67 hr67 h67 => ?_)
  obtain ⟨hS67, _, he67_0, hBq67, hFq67⟩ := h67
  have hQ67 : MI u67 u67 := MI.sf hS67
  have hW67 : WP u67 := WP.of hS67 hWm
  have hL67 := w_undo hKk hFq66 hFq67
  have hKq67 : WR Rx u66 u67 := hL67.2
  have hA67 := hL67.1
  refine x_pop C.1 dL_law_1435 rfl ?_
  refine x_goto C.1 (tgt := 1495) dL_law_1436 (by decide) ?_
  exact kk u66 Jx Rx u67 Jm Rm ⟨hQ66, hJx, hRx, hQ67, hJm, hW67, hKq67⟩
set_option maxHeartbeats 8000000 in
set_option maxRecDepth 100000 in
theorem law_case_31 {p : Program} {e : Env} {s : State} {m : MethodId} {below : List Frame} {meth : Method} {c : Code} (l : Launch) (D : va_G) (cy : Nat → ClassId) {b L : Nat} {xs : Nat → Int32} (aK aV : Nat → Nat) (C : xC2 p s m #[Value.ref b] meth c D (fun q => s.heap.size ≤ q) s.heap 4 code RL (xTY cy)) (hE : zE aK aV (fun q => s.heap.size ≤ q) s s.heap) (hr : meth.sig.returnType = ret) (hX : va_X b L xs s s.heap) (hbl : b < s.heap.size) (hbA : ¬ (fun q : Nat => s.heap.size ≤ q) b) (hL : L ≤ 3072) (ux um : Nat → Nat) (i : Int) (hi : 0 ≤ i ∧ i + 6 ≤ L) (Vx Jx : Nat → Nat → Int) (Rx : Nat → Nat → Nat) (Vm Jm : Nat → Nat → Int) (Rm : Nat → Nat → Nat) (hLI : LI Vx Jx Rx Vm Jm Rm) (kk : ∀ (Vx Jx : Nat → Nat → Int) (Rx : Nat → Nat → Nat) (Vm Jm : Nat → Nat → Int) (Rm : Nat → Nat → Nat), LI Vx Jx Rx Vm Jm Rm → xW p l e room_1 s m #[Value.ref b] below meth c D (fun q => s.heap.size ≤ q) s.heap 4 162 8366 (lw_Z below #[Value.ref b] s) (XW cy ux Vx Jx Rx ++ MW cy um Vm Jm Rm) 1495 [(3, vI i), (2, .ref (um 0)), (1, .ref (ux 0)), (0, .ref b)] []) : xW p l e room_1 s m #[Value.ref b] below meth c D (fun q => s.heap.size ≤ q) s.heap 4 162 8366 (lw_Z below #[Value.ref b] s) (XW cy ux Vx Jx Rx ++ MW cy um Vm Jm Rm) 1439 [(3, vI i), (2, .ref (um 0)), (1, .ref (ux 0)), (0, .ref b)] [] := by
  obtain ⟨hVx, hJx, hRx, hVm, hJm, hWm, hKk⟩ := hLI
  refine x_aload_n C.1 dL_law_1439 2 rfl ?_
  refine x_aload_n C.1 dL_law_1440 3 rfl ?_
  refine x_iload_n C.1 dL_law_1441 0 rfl ?_
  refine x_iconst C.1 (n := 1) dL_law_1442 ?_
  refine x_iadd C.1 (v := i + 1) (by omega) dL_law_1443 ?_
  refine x_sld C (b := b) (i := i + 1) hX hbl hbA (by omega) (by omega) dL_law_1444 ?_
  refine x_aload_n C.1 dL_law_1445 3 rfl ?_
  refine x_iload_n C.1 dL_law_1446 0 rfl ?_
  refine x_iconst C.1 (n := 2) dL_law_1447 ?_
  refine x_iadd C.1 (v := i + 2) (by omega) dL_law_1448 ?_
  refine x_sld C (b := b) (i := i + 2) hX hbl hbA (by omega) (by omega) dL_law_1449 ?_
  refine x_callVi C (As := [vI ((xs (i + 1).toNat).toInt), vI ((xs (i + 2).toNat).toInt)]) (rest := []) 0 law_x vc_X11 (s_check l D cy ux Vx Vx Jx Rx hVx hJx hRx ((xs (i + 1).toNat).toInt) (xi_r _) ((xs (i + 2).toNat).toInt) (xi_r _)) (l1 := []) (l2 := MW cy um Vm Jm Rm) rfl (w2 := fun u68 : Nat → Nat → Int => XW cy ux u68 Jx Rx ++ MW cy um Vm Jm Rm) (fun _ => rfl) rfl wm_yX11_check wn_X11 wl_L_151 wi_yX11_check we_yX11_check hd_yX11_check rfl ⟨Nat.le_of_ble_eq_true rfl, Nat.le_of_ble_eq_true rfl⟩ (Nat.le_of_ble_eq_true rfl) ⟨Nat.le_of_ble_eq_true rfl, Nat.le_of_ble_eq_true rfl⟩ dL_law_1450 (fun r68 u68 hr68 h68 => ?_)
  obtain ⟨hS68, hBq68, hFq68⟩ := h68
  have hQ68 : XI u68 u68 := XI.toU hS68
  refine x_pop C.1 dL_law_1453 rfl ?_
  refine x_aload_n C.1 dL_law_1454 1 rfl ?_
  refine x_aload_n C.1 dL_law_1455 3 rfl ?_
  refine x_iload_n C.1 dL_law_1456 0 rfl ?_
  refine x_iconst C.1 (n := 1) dL_law_1457 ?_
  refine x_iadd C.1 (v := i + 1) (by omega) dL_law_1458 ?_
  refine x_sld C (b := b) (i := i + 1) hX hbl hbA (by omega) (by omega) dL_law_1459 ?_
  refine x_aload_n C.1 dL_law_1460 3 rfl ?_
  refine x_iload_n C.1 dL_law_1461 0 rfl ?_
  refine x_iconst C.1 (n := 2) dL_law_1462 ?_
  refine x_iadd C.1 (v := i + 2) (by omega) dL_law_1463 ?_
  refine x_sld C (b := b) (i := i + 2) hX hbl hbA (by omega) (by omega) dL_law_1464 ?_
  refine x_callVi C (As := [vI ((xs (i + 1).toNat).toInt), vI ((xs (i + 2).toNat).toInt)]) (rest := []) 129 law_m vc_X12 (m_check l D cy um Vm Vm Jm Rm hVm hJm trivial ((xs (i + 1).toNat).toInt) (xi_r _) ((xs (i + 2).toNat).toInt) (xi_r _)) (l1 := XW cy ux u68 Jx Rx) (l2 := []) (List.append_nil _).symm (w2 := fun u69 : Nat → Nat → Int => XW cy ux u68 Jx Rx ++ MW cy um u69 Jm Rm) (fun _ => List.append_nil _) rfl wm_yX12_check wn_X12 wl_L_154 wi_yX12_check we_yX12_check hd_yX12_check rfl ⟨Nat.le_of_ble_eq_true rfl, Nat.le_of_ble_eq_true rfl⟩ (Nat.le_of_ble_eq_true rfl) ⟨Nat.le_of_ble_eq_true rfl, Nat.le_of_ble_eq_true rfl⟩ dL_law_1465 (fun r69 u69 hr69 h69 => ?_)
  obtain ⟨hS69, hBq69, hFq69⟩ := h69
  have hQ69 : MI u69 u69 := MI.sf hS69
  have hW69 : WP u69 := WP.of hS69 hWm
  have hKq69 : WR Rx u68 u69 := (hKk.keepT (t_check hKk hFq68 hFq69) (fun i hi => funext fun k => hBq68 i k (by omega)) (hBq68 0 3 (by omega)) (fun k _ => congrFun (hBq69.rw 1 (by decide) (by decide)) k) (hBq69.rw 3 (by decide) (by decide)) (hBq69.kt (by decide)) (hBq69.fl 53 (by decide)))
  refine x_pop C.1 dL_law_1468 rfl ?_
  refine x_goto C.1 (tgt := 1495) dL_law_1469 (by decide) ?_
  exact kk u68 Jx Rx u69 Jm Rm ⟨hQ68, hJx, hRx, hQ69, hJm, hW69, hKq69⟩
set_option maxHeartbeats 8000000 in
set_option maxRecDepth 100000 in
theorem law_case_32 {p : Program} {e : Env} {s : State} {m : MethodId} {below : List Frame} {meth : Method} {c : Code} (l : Launch) (D : va_G) (cy : Nat → ClassId) {b L : Nat} {xs : Nat → Int32} (aK aV : Nat → Nat) (C : xC2 p s m #[Value.ref b] meth c D (fun q => s.heap.size ≤ q) s.heap 4 code RL (xTY cy)) (hE : zE aK aV (fun q => s.heap.size ≤ q) s s.heap) (hr : meth.sig.returnType = ret) (hX : va_X b L xs s s.heap) (hbl : b < s.heap.size) (hbA : ¬ (fun q : Nat => s.heap.size ≤ q) b) (hL : L ≤ 3072) (ux um : Nat → Nat) (i : Int) (hi : 0 ≤ i ∧ i + 6 ≤ L) (Vx Jx : Nat → Nat → Int) (Rx : Nat → Nat → Nat) (Vm Jm : Nat → Nat → Int) (Rm : Nat → Nat → Nat) (hLI : LI Vx Jx Rx Vm Jm Rm) (kk : ∀ (Vx Jx : Nat → Nat → Int) (Rx : Nat → Nat → Nat) (Vm Jm : Nat → Nat → Int) (Rm : Nat → Nat → Nat), LI Vx Jx Rx Vm Jm Rm → xW p l e room_1 s m #[Value.ref b] below meth c D (fun q => s.heap.size ≤ q) s.heap 4 162 8366 (lw_Z below #[Value.ref b] s) (XW cy ux Vx Jx Rx ++ MW cy um Vm Jm Rm) 1495 [(3, vI i), (2, .ref (um 0)), (1, .ref (ux 0)), (0, .ref b)] []) : xW p l e room_1 s m #[Value.ref b] below meth c D (fun q => s.heap.size ≤ q) s.heap 4 162 8366 (lw_Z below #[Value.ref b] s) (XW cy ux Vx Jx Rx ++ MW cy um Vm Jm Rm) 1472 [(3, vI i), (2, .ref (um 0)), (1, .ref (ux 0)), (0, .ref b)] [] := by
  obtain ⟨hVx, hJx, hRx, hVm, hJm, hWm, hKk⟩ := hLI
  refine x_aload_n C.1 dL_law_1472 2 rfl ?_
  refine x_aload_n C.1 dL_law_1473 3 rfl ?_
  refine x_iload_n C.1 dL_law_1474 0 rfl ?_
  refine x_iconst C.1 (n := 1) dL_law_1475 ?_
  refine x_iadd C.1 (v := i + 1) (by omega) dL_law_1476 ?_
  refine x_sld C (b := b) (i := i + 1) hX hbl hbA (by omega) (by omega) dL_law_1477 ?_
  refine x_callVi C (As := [vI ((xs (i + 1).toNat).toInt)]) (rest := []) 0 law_x vc_X11 (s_count l D cy ux Vx Vx Jx Rx hVx hJx hRx ((xs (i + 1).toNat).toInt) (xi_r _)) (l1 := []) (l2 := MW cy um Vm Jm Rm) rfl (w2 := fun u70 : Unit => XW cy ux Vx Jx Rx ++ MW cy um Vm Jm Rm) (fun _ => rfl) rfl wm_yX11_count wn_X11 wl_L_155 wi_yX11_count we_yX11_count hd_yX11_count rfl ⟨Nat.le_of_ble_eq_true rfl, Nat.le_of_ble_eq_true rfl⟩ (Nat.le_of_ble_eq_true rfl) ⟨Nat.le_of_ble_eq_true rfl, Nat.le_of_ble_eq_true rfl⟩ dL_law_1478 (fun r70 u70 hr70 h70 => ?_)
  have hFq70 := h70
  refine x_pop C.1 dL_law_1481 rfl ?_
  refine x_aload_n C.1 dL_law_1482 1 rfl ?_
  refine x_aload_n C.1 dL_law_1483 3 rfl ?_
  refine x_iload_n C.1 dL_law_1484 0 rfl ?_
  refine x_iconst C.1 (n := 1) dL_law_1485 ?_
  refine x_iadd C.1 (v := i + 1) (by omega) dL_law_1486 ?_
  refine x_sld C (b := b) (i := i + 1) hX hbl hbA (by omega) (by omega) dL_law_1487 ?_
  refine x_callVi C (As := [vI ((xs (i + 1).toNat).toInt)]) (rest := []) 129 law_m vc_X12 (m_count l D cy um Vm Vm Jm Rm hVm hJm trivial ((xs (i + 1).toNat).toInt) (xi_r _)) (l1 := XW cy ux Vx Jx Rx) (l2 := []) (List.append_nil _).symm (w2 := fun u71 : Unit => XW cy ux Vx Jx Rx ++ MW cy um Vm Jm Rm) (fun _ => List.append_nil _) rfl wm_yX12_count wn_X12 wl_L_158 wi_yX12_count we_yX12_count hd_yX12_count rfl ⟨Nat.le_of_ble_eq_true rfl, Nat.le_of_ble_eq_true rfl⟩ (Nat.le_of_ble_eq_true rfl) ⟨Nat.le_of_ble_eq_true rfl, Nat.le_of_ble_eq_true rfl⟩ dL_law_1488 (fun r71 u71 hr71 h71 => ?_)
  have hFq71 := h71
  refine x_pop C.1 dL_law_1491 rfl ?_
  refine x_goto C.1 (tgt := 1495) dL_law_1492 (by decide) ?_
  exact kk Vx Jx Rx Vm Jm Rm ⟨hVx, hJx, hRx, hVm, hJm, hWm, hKk⟩
end
section
set_option maxHeartbeats 8000000 in
set_option maxRecDepth 100000 in
theorem law_body {p : Program} {e : Env} {s : State} {m : MethodId} {below : List Frame} {meth : Method} {c : Code} (l : Launch) (D : va_G) (cy : Nat → ClassId) {b L : Nat} {xs : Nat → Int32} (aK aV : Nat → Nat) (C : xC2 p s m #[Value.ref b] meth c D (fun q => s.heap.size ≤ q) s.heap 4 code RL (xTY cy)) (hE : zE aK aV (fun q => s.heap.size ≤ q) s s.heap) (hr : meth.sig.returnType = ret) (hX : va_X b L xs s s.heap) (hbl : b < s.heap.size) (hbA : ¬ (fun q : Nat => s.heap.size ≤ q) b) (hL : L ≤ 3072) (ux um : Nat → Nat) (Vx Jx : Nat → Nat → Int) (Rx : Nat → Nat → Nat) (Vm Jm : Nat → Nat → Int) (Rm : Nat → Nat → Nat) (hLI : LI Vx Jx Rx Vm Jm Rm) : xW p l e room_1 s m #[Value.ref b] below meth c D (fun q => s.heap.size ≤ q) s.heap 4 162 8366 (lw_Z below #[Value.ref b] s) (XW cy ux Vx Jx Rx ++ MW cy um Vm Jm Rm) 18 [(3, vI 0), (2, .ref (um 0)), (1, .ref (ux 0)), (0, .ref b)] [] := by
  refine x_loop (I := fun x : Int × (Nat → Nat → Int) × (Nat → Nat → Int) × (Nat → Nat → Nat) × (Nat → Nat → Int) × (Nat → Nat → Int) × (Nat → Nat → Nat) => match x with | (i, Vx, Jx, Rx, Vm, Jm, Rm) => (0 ≤ i ∧ i ≤ L + 6) ∧ LI Vx Jx Rx Vm Jm Rm) (μ := fun x : Int × (Nat → Nat → Int) × (Nat → Nat → Int) × (Nat → Nat → Nat) × (Nat → Nat → Int) × (Nat → Nat → Int) × (Nat → Nat → Nat) => match x with | (i, Vx, Jx, Rx, Vm, Jm, Rm) => ((L : Int) + 6 - i).toNat) (wsf := fun x : Int × (Nat → Nat → Int) × (Nat → Nat → Int) × (Nat → Nat → Nat) × (Nat → Nat → Int) × (Nat → Nat → Int) × (Nat → Nat → Nat) => match x with | (i, Vx, Jx, Rx, Vm, Jm, Rm) => XW cy ux Vx Jx Rx ++ MW cy um Vm Jm Rm) (lvf := fun x : Int × (Nat → Nat → Int) × (Nat → Nat → Int) × (Nat → Nat → Nat) × (Nat → Nat → Int) × (Nat → Nat → Int) × (Nat → Nat → Nat) => match x with | (i, Vx, Jx, Rx, Vm, Jm, Rm) => [(3, vI i), (2, .ref (um 0)), (1, .ref (ux 0)), (0, .ref b)]) (fun x hIx ih => ?_) (0, Vx, Jx, Rx, Vm, Jm, Rm) ⟨⟨by omega, by omega⟩, hLI⟩ rfl rfl
  obtain ⟨i, Vx, Jx, Rx, Vm, Jm, Rm⟩ := x
  obtain ⟨hi, hLI⟩ := hIx
  dsimp only
  refine x_iload_n C.1 dL_law_18 0 rfl ?_
  refine x_aload_n C.1 dL_law_19 3 rfl ?_
  refine x_slen C (b := b) hX hbl hbA dL_law_20 ?_
  refine x_bipush C.1 (n := 6) dL_law_21 ?_
  refine x_isub C.1 rfl dL_law_23 ?_
  refine x_icmp_gt C.1 (tgt := 1501) dL_law_24 (by decide) (by omega) (by omega) (fun hgt => ?_) (fun hgt => ?_)
  · refine x_iconst C.1 (n := 1) dL_law_1501 ?_
    exact x_lend C hr dL_law_1502 (Nat.le_of_ble_eq_true rfl) (Nat.le_of_ble_eq_true rfl)
  · have hi6 : 0 ≤ i ∧ i + 6 ≤ L := by omega
    have kk : ∀ (Vx Jx : Nat → Nat → Int) (Rx : Nat → Nat → Nat) (Vm Jm : Nat → Nat → Int) (Rm : Nat → Nat → Nat), LI Vx Jx Rx Vm Jm Rm → xW p l e room_1 s m #[Value.ref b] below meth c D (fun q => s.heap.size ≤ q) s.heap 4 162 8366 (lw_Z below #[Value.ref b] s) (XW cy ux Vx Jx Rx ++ MW cy um Vm Jm Rm) 1495 [(3, vI i), (2, .ref (um 0)), (1, .ref (ux 0)), (0, .ref b)] [] := by
      intro Vx2 Jx2 Rx2 Vm2 Jm2 Rm2 h2
      refine x_iinc C.1 (v := i + 6) (lv' := [(3, vI (i + 6)), (2, .ref (um 0)), (1, .ref (ux 0)), (0, .ref b)]) rfl dL_law_1495 0 rfl (by decide) rfl ?_
      refine x_goto C.1 (tgt := 18) dL_law_1498 (by decide) ?_
      exact ih (i + 6, Vx2, Jx2, Rx2, Vm2, Jm2, Rm2) ⟨⟨by omega, by omega⟩, h2⟩ (by dsimp only; omega)
    refine x_aload_n C.1 dL_law_27 3 rfl ?_
    refine x_iload_n C.1 dL_law_28 0 rfl ?_
    refine x_sld C (b := b) (i := i) hX hbl hbA (by omega) (by omega) dL_law_29 ?_
    refine x_bipush C.1 (n := 63) dL_law_30 ?_
    refine x_iand C.1 rfl dL_law_32 ?_
    have hsw := iAnd_le (xs i.toNat).toInt (q := 63) (by decide)
    by_cases hs0 : iAnd (xs i.toNat).toInt 63 = 0
    · refine x_tabIn C.1 0 hs0 (by decide) (tgt := 180) dL_law_33 (by decide) (by decide) rfl (by decide) ?_
      exact law_case_0 l D cy aK aV C hE hr hX hbl hbA hL ux um i hi6 Vx Jx Rx Vm Jm Rm hLI kk
    by_cases hs1 : iAnd (xs i.toNat).toInt 63 = 1
    · refine x_tabIn C.1 1 hs1 (by decide) (tgt := 233) dL_law_33 (by decide) (by decide) rfl (by decide) ?_
      exact law_case_1 l D cy aK aV C hE hr hX hbl hbA hL ux um i hi6 Vx Jx Rx Vm Jm Rm hLI kk
    by_cases hs2 : iAnd (xs i.toNat).toInt 63 = 2
    · refine x_tabIn C.1 2 hs2 (by decide) (tgt := 276) dL_law_33 (by decide) (by decide) rfl (by decide) ?_
      exact law_case_2 l D cy aK aV C hE hr hX hbl hbA hL ux um i hi6 Vx Jx Rx Vm Jm Rm hLI kk
    by_cases hs3 : iAnd (xs i.toNat).toInt 63 = 3
    · refine x_tabIn C.1 3 hs3 (by decide) (tgt := 325) dL_law_33 (by decide) (by decide) rfl (by decide) ?_
      exact law_case_3 l D cy aK aV C hE hr hX hbl hbA hL ux um i hi6 Vx Jx Rx Vm Jm Rm hLI kk
    by_cases hs4 : iAnd (xs i.toNat).toInt 63 = 4
    · refine x_tabIn C.1 4 hs4 (by decide) (tgt := 358) dL_law_33 (by decide) (by decide) rfl (by decide) ?_
      exact law_case_4 l D cy aK aV C hE hr hX hbl hbA hL ux um i hi6 Vx Jx Rx Vm Jm Rm hLI kk
    by_cases hs5 : iAnd (xs i.toNat).toInt 63 = 5
    · refine x_tabIn C.1 5 hs5 (by decide) (tgt := 421) dL_law_33 (by decide) (by decide) rfl (by decide) ?_
      exact law_case_5 l D cy aK aV C hE hr hX hbl hbA hL ux um i hi6 Vx Jx Rx Vm Jm Rm hLI kk
    by_cases hs6 : iAnd (xs i.toNat).toInt 63 = 6
    · refine x_tabIn C.1 6 hs6 (by decide) (tgt := 444) dL_law_33 (by decide) (by decide) rfl (by decide) ?_
      exact law_case_6 l D cy aK aV C hE hr hX hbl hbA hL ux um i hi6 Vx Jx Rx Vm Jm Rm hLI kk
    by_cases hs7 : iAnd (xs i.toNat).toInt 63 = 7
    · refine x_tabIn C.1 7 hs7 (by decide) (tgt := 477) dL_law_33 (by decide) (by decide) rfl (by decide) ?_
      exact law_case_7 l D cy aK aV C hE hr hX hbl hbA hL ux um i hi6 Vx Jx Rx Vm Jm Rm hLI kk
    by_cases hs8 : iAnd (xs i.toNat).toInt 63 = 8
    · refine x_tabIn C.1 8 hs8 (by decide) (tgt := 500) dL_law_33 (by decide) (by decide) rfl (by decide) ?_
      exact law_case_8 l D cy aK aV C hE hr hX hbl hbA hL ux um i hi6 Vx Jx Rx Vm Jm Rm hLI kk
    by_cases hs9 : iAnd (xs i.toNat).toInt 63 = 9
    · refine x_tabIn C.1 9 hs9 (by decide) (tgt := 533) dL_law_33 (by decide) (by decide) rfl (by decide) ?_
      exact law_case_9 l D cy aK aV C hE hr hX hbl hbA hL ux um i hi6 Vx Jx Rx Vm Jm Rm hLI kk
    by_cases hs10 : iAnd (xs i.toNat).toInt 63 = 10
    · refine x_tabIn C.1 10 hs10 (by decide) (tgt := 566) dL_law_33 (by decide) (by decide) rfl (by decide) ?_
      exact law_case_10 l D cy aK aV C hE hr hX hbl hbA hL ux um i hi6 Vx Jx Rx Vm Jm Rm hLI kk
    by_cases hs11 : iAnd (xs i.toNat).toInt 63 = 11
    · refine x_tabIn C.1 11 hs11 (by decide) (tgt := 599) dL_law_33 (by decide) (by decide) rfl (by decide) ?_
      exact law_case_11 l D cy aK aV C hE hr hX hbl hbA hL ux um i hi6 Vx Jx Rx Vm Jm Rm hLI kk
    by_cases hs12 : iAnd (xs i.toNat).toInt 63 = 12
    · refine x_tabIn C.1 12 hs12 (by decide) (tgt := 652) dL_law_33 (by decide) (by decide) rfl (by decide) ?_
      exact law_case_12 l D cy aK aV C hE hr hX hbl hbA hL ux um i hi6 Vx Jx Rx Vm Jm Rm hLI kk
    by_cases hs13 : iAnd (xs i.toNat).toInt 63 = 13
    · refine x_tabIn C.1 13 hs13 (by decide) (tgt := 705) dL_law_33 (by decide) (by decide) rfl (by decide) ?_
      exact law_case_13 l D cy aK aV C hE hr hX hbl hbA hL ux um i hi6 Vx Jx Rx Vm Jm Rm hLI kk
    by_cases hs14 : iAnd (xs i.toNat).toInt 63 = 14
    · refine x_tabIn C.1 14 hs14 (by decide) (tgt := 758) dL_law_33 (by decide) (by decide) rfl (by decide) ?_
      exact law_case_14 l D cy aK aV C hE hr hX hbl hbA hL ux um i hi6 Vx Jx Rx Vm Jm Rm hLI kk
    by_cases hs15 : iAnd (xs i.toNat).toInt 63 = 15
    · refine x_tabIn C.1 15 hs15 (by decide) (tgt := 811) dL_law_33 (by decide) (by decide) rfl (by decide) ?_
      exact law_case_15 l D cy aK aV C hE hr hX hbl hbA hL ux um i hi6 Vx Jx Rx Vm Jm Rm hLI kk
    by_cases hs16 : iAnd (xs i.toNat).toInt 63 = 16
    · refine x_tabIn C.1 16 hs16 (by decide) (tgt := 864) dL_law_33 (by decide) (by decide) rfl (by decide) ?_
      exact law_case_16 l D cy aK aV C hE hr hX hbl hbA hL ux um i hi6 Vx Jx Rx Vm Jm Rm hLI kk
    by_cases hs17 : iAnd (xs i.toNat).toInt 63 = 17
    · refine x_tabIn C.1 17 hs17 (by decide) (tgt := 927) dL_law_33 (by decide) (by decide) rfl (by decide) ?_
      exact law_case_17 l D cy aK aV C hE hr hX hbl hbA hL ux um i hi6 Vx Jx Rx Vm Jm Rm hLI kk
    by_cases hs18 : iAnd (xs i.toNat).toInt 63 = 18
    · refine x_tabIn C.1 18 hs18 (by decide) (tgt := 960) dL_law_33 (by decide) (by decide) rfl (by decide) ?_
      exact law_case_18 l D cy aK aV C hE hr hX hbl hbA hL ux um i hi6 Vx Jx Rx Vm Jm Rm hLI kk
    by_cases hs19 : iAnd (xs i.toNat).toInt 63 = 19
    · refine x_tabIn C.1 19 hs19 (by decide) (tgt := 993) dL_law_33 (by decide) (by decide) rfl (by decide) ?_
      exact law_case_19 l D cy aK aV C hE hr hX hbl hbA hL ux um i hi6 Vx Jx Rx Vm Jm Rm hLI kk
    by_cases hs20 : iAnd (xs i.toNat).toInt 63 = 20
    · refine x_tabIn C.1 20 hs20 (by decide) (tgt := 1036) dL_law_33 (by decide) (by decide) rfl (by decide) ?_
      exact law_case_20 l D cy aK aV C hE hr hX hbl hbA hL ux um i hi6 Vx Jx Rx Vm Jm Rm hLI kk
    by_cases hs21 : iAnd (xs i.toNat).toInt 63 = 21
    · refine x_tabIn C.1 21 hs21 (by decide) (tgt := 1089) dL_law_33 (by decide) (by decide) rfl (by decide) ?_
      exact law_case_21 l D cy aK aV C hE hr hX hbl hbA hL ux um i hi6 Vx Jx Rx Vm Jm Rm hLI kk
    by_cases hs22 : iAnd (xs i.toNat).toInt 63 = 22
    · refine x_tabIn C.1 22 hs22 (by decide) (tgt := 1122) dL_law_33 (by decide) (by decide) rfl (by decide) ?_
      exact law_case_22 l D cy aK aV C hE hr hX hbl hbA hL ux um i hi6 Vx Jx Rx Vm Jm Rm hLI kk
    by_cases hs23 : iAnd (xs i.toNat).toInt 63 = 23
    · refine x_tabIn C.1 23 hs23 (by decide) (tgt := 1165) dL_law_33 (by decide) (by decide) rfl (by decide) ?_
      exact law_case_23 l D cy aK aV C hE hr hX hbl hbA hL ux um i hi6 Vx Jx Rx Vm Jm Rm hLI kk
    by_cases hs24 : iAnd (xs i.toNat).toInt 63 = 24
    · refine x_tabIn C.1 24 hs24 (by decide) (tgt := 1198) dL_law_33 (by decide) (by decide) rfl (by decide) ?_
      exact law_case_24 l D cy aK aV C hE hr hX hbl hbA hL ux um i hi6 Vx Jx Rx Vm Jm Rm hLI kk
    by_cases hs25 : iAnd (xs i.toNat).toInt 63 = 25
    · refine x_tabIn C.1 25 hs25 (by decide) (tgt := 1241) dL_law_33 (by decide) (by decide) rfl (by decide) ?_
      exact law_case_25 l D cy aK aV C hE hr hX hbl hbA hL ux um i hi6 Vx Jx Rx Vm Jm Rm hLI kk
    by_cases hs26 : iAnd (xs i.toNat).toInt 63 = 26
    · refine x_tabIn C.1 26 hs26 (by decide) (tgt := 1274) dL_law_33 (by decide) (by decide) rfl (by decide) ?_
      exact law_case_26 l D cy aK aV C hE hr hX hbl hbA hL ux um i hi6 Vx Jx Rx Vm Jm Rm hLI kk
    by_cases hs27 : iAnd (xs i.toNat).toInt 63 = 27
    · refine x_tabIn C.1 27 hs27 (by decide) (tgt := 1337) dL_law_33 (by decide) (by decide) rfl (by decide) ?_
      exact law_case_27 l D cy aK aV C hE hr hX hbl hbA hL ux um i hi6 Vx Jx Rx Vm Jm Rm hLI kk
    by_cases hs28 : iAnd (xs i.toNat).toInt 63 = 28
    · refine x_tabIn C.1 28 hs28 (by decide) (tgt := 1390) dL_law_33 (by decide) (by decide) rfl (by decide) ?_
      exact law_case_28 l D cy aK aV C hE hr hX hbl hbA hL ux um i hi6 Vx Jx Rx Vm Jm Rm hLI kk
    by_cases hs29 : iAnd (xs i.toNat).toInt 63 = 29
    · refine x_tabIn C.1 29 hs29 (by decide) (tgt := 1413) dL_law_33 (by decide) (by decide) rfl (by decide) ?_
      exact law_case_29 l D cy aK aV C hE hr hX hbl hbA hL ux um i hi6 Vx Jx Rx Vm Jm Rm hLI kk
    by_cases hs30 : iAnd (xs i.toNat).toInt 63 = 30
    · refine x_tabIn C.1 30 hs30 (by decide) (tgt := 1426) dL_law_33 (by decide) (by decide) rfl (by decide) ?_
      exact law_case_30 l D cy aK aV C hE hr hX hbl hbA hL ux um i hi6 Vx Jx Rx Vm Jm Rm hLI kk
    by_cases hs31 : iAnd (xs i.toNat).toInt 63 = 31
    · refine x_tabIn C.1 31 hs31 (by decide) (tgt := 1439) dL_law_33 (by decide) (by decide) rfl (by decide) ?_
      exact law_case_31 l D cy aK aV C hE hr hX hbl hbA hL ux um i hi6 Vx Jx Rx Vm Jm Rm hLI kk
    by_cases hs32 : iAnd (xs i.toNat).toInt 63 = 32
    · refine x_tabIn C.1 32 hs32 (by decide) (tgt := 1472) dL_law_33 (by decide) (by decide) rfl (by decide) ?_
      exact law_case_32 l D cy aK aV C hE hr hX hbl hbA hL ux um i hi6 Vx Jx Rx Vm Jm Rm hLI kk
    refine x_tabOut C.1 (tgt := 1495) (xi_r _) dL_law_33 (Or.inr (by omega)) (by decide) ?_
    exact kk Vx Jx Rx Vm Jm Rm hLI
end
section
def ztm : Nat → Term
  | 0 => .string "LandingTree$Book" 45
  | 1 => .string "LandingTree$Reader" 127
  | _ => .string "LandingTree$Book" 55
theorem law_E {s : State} {b : Nat} (hts : ∀ w ∈ lw_tbl, w.before #[Value.ref b] s = true) (hgv : (Jvm.Cond.and given_1 narrow_1).before #[Value.ref b] s = true) : ∃ aK aV : Nat → Nat, zE aK aV (fun q => s.heap.size ≤ q) s s.heap := by
  have hs := flat_of_before _ hgv
  have hA : ∀ a : Nat, a < s.heap.size → ¬ (fun q : Nat => s.heap.size ≤ q) a := fun a h => Nat.not_le.mpr h
  have h1 : ∀ i : Nat, i < 3 → zLen.getD i 0 < 2 ^ 31 := by
    intro i hi
    rcases (show i = 0 ∨ i = 1 ∨ i = 2 by omega) with rfl | rfl | rfl
    · decide
    · decide
    · decide
  have h2 : ∀ i : Nat, i < 3 → (Cond.exactly (ztm i) "java/lang/String").before #[Value.ref b] s = true := by
    intro i hi
    rcases (show i = 0 ∨ i = 1 ∨ i = 2 by omega) with rfl | rfl | rfl
    · exact hs _ (by decide +kernel)
    · exact hs _ (by decide +kernel)
    · exact hs _ (by decide +kernel)
  have h3 : ∀ i : Nat, i < 3 → (Cond.eq (.field (ztm i) "java/lang/String" "coder" "B") (.int 0)).before #[Value.ref b] s = true := by
    intro i hi
    rcases (show i = 0 ∨ i = 1 ∨ i = 2 by omega) with rfl | rfl | rfl
    · exact hs _ (by decide +kernel)
    · exact hs _ (by decide +kernel)
    · exact hs _ (by decide +kernel)
  have h4 : ∀ i : Nat, i < 3 → (Cond.arrayOf (.field (ztm i) "java/lang/String" "value" "[B") .byte).before #[Value.ref b] s = true := by
    intro i hi
    rcases (show i = 0 ∨ i = 1 ∨ i = 2 by omega) with rfl | rfl | rfl
    · exact hs _ (by decide +kernel)
    · exact hs _ (by decide +kernel)
    · exact hs _ (by decide +kernel)
  have h5 : ∀ i : Nat, i < 3 → (Cond.eq (.length (.field (ztm i) "java/lang/String" "value" "[B")) (.int (Int32.ofNat (zLen.getD i 0)))).before #[Value.ref b] s = true := by
    intro i hi
    rcases (show i = 0 ∨ i = 1 ∨ i = 2 by omega) with rfl | rfl | rfl
    · exact hs _ (by decide +kernel)
    · exact hs _ (by decide +kernel)
    · exact hs _ (by decide +kernel)
  have h6 : ∀ i : Nat, i < 3 → ∀ j : Nat, j < zLen.getD i 0 → (Cond.eq (.elem (.field (ztm i) "java/lang/String" "value" "[B") (.int (Int32.ofNat j))) (.int ((zByt.getD i []).getD j 0))).before #[Value.ref b] s = true := by
    intro i hi j hj
    rcases (show i = 0 ∨ i = 1 ∨ i = 2 by omega) with rfl | rfl | rfl
    · rcases (show j = 0 ∨ j = 1 ∨ j = 2 ∨ j = 3 by have : j < 4 := hj; omega) with rfl | rfl | rfl | rfl
      · exact hs _ (by decide +kernel)
      · exact hs _ (by decide +kernel)
      · exact hs _ (by decide +kernel)
      · exact hs _ (by decide +kernel)
    · rcases (show j = 0 ∨ j = 1 ∨ j = 2 ∨ j = 3 ∨ j = 4 ∨ j = 5 ∨ j = 6 ∨ j = 7 ∨ j = 8 ∨ j = 9 ∨ j = 10 ∨ j = 11 ∨ j = 12 by have : j < 13 := hj; omega) with rfl | rfl | rfl | rfl | rfl | rfl | rfl | rfl | rfl | rfl | rfl | rfl | rfl
      · exact hs _ (by decide +kernel)
      · exact hs _ (by decide +kernel)
      · exact hs _ (by decide +kernel)
      · exact hs _ (by decide +kernel)
      · exact hs _ (by decide +kernel)
      · exact hs _ (by decide +kernel)
      · exact hs _ (by decide +kernel)
      · exact hs _ (by decide +kernel)
      · exact hs _ (by decide +kernel)
      · exact hs _ (by decide +kernel)
      · exact hs _ (by decide +kernel)
      · exact hs _ (by decide +kernel)
      · exact hs _ (by decide +kernel)
    · obtain rfl : j = 0 := by have : j < 1 := hj; omega
      exact hs _ (by decide +kernel)
  have h7 : ∀ i j : Nat, i < 3 → j < 3 → i ≠ j → (Cond.not (Cond.eq (ztm i) (ztm j))).before #[Value.ref b] s = true ∨ (Cond.not (Cond.eq (ztm j) (ztm i))).before #[Value.ref b] s = true := by
    intro i j hi hj hij
    rcases (show (i = 0 ∧ j = 1) ∨ (i = 1 ∧ j = 0) ∨ (i = 0 ∧ j = 2) ∨ (i = 2 ∧ j = 0) ∨ (i = 1 ∧ j = 2) ∨ (i = 2 ∧ j = 1) by omega) with ⟨rfl, rfl⟩ | ⟨rfl, rfl⟩ | ⟨rfl, rfl⟩ | ⟨rfl, rfl⟩ | ⟨rfl, rfl⟩ | ⟨rfl, rfl⟩
    · exact Or.inl (hs _ (by decide +kernel))
    · exact Or.inr (hs _ (by decide +kernel))
    · exact Or.inl (hs _ (by decide +kernel))
    · exact Or.inr (hs _ (by decide +kernel))
    · exact Or.inl (hs _ (by decide +kernel))
    · exact Or.inr (hs _ (by decide +kernel))
  obtain ⟨aK, aV, hS, hv⟩ := vk_Sof (N := 3) (tm := ztm) (A := fun q => s.heap.size ≤ q) h1 h2 h3 h4 h5 h6 h7 hA
  refine ⟨aK, aV, hS, va_Zof (hts _ (law_mem 660 (by decide +kernel))) (hts _ (law_mem 116 (by decide +kernel))) (va_eqt (hs _ (by decide +kernel))) hA, vk_R.of (hts _ (law_mem 626 (by decide +kernel))) (hv 0 (by decide)), vk_R.of (hts _ (law_mem 803 (by decide +kernel))) (hv 1 (by decide)), vk_R.of (hts _ (law_mem 825 (by decide +kernel))) (hv 2 (by decide))⟩
end
