theorem RPl0 (l : Nat) (hl : l < 4) : RPl (V0x (1 + 3 + 2 * l)) (V0x (1 + 3 + 2 * l + 1)) (V0m 1) l := by
  have k : ∀ l : Nat, l < 4 → ∀ j : Nat, j < 7 → V0x (1 + 3 + 2 * l + 1) j = V0m 1 (24 + 7 * l + j) := by decide
  have c : ∀ l : Nat, l < 4 → V0x (1 + 3 + 2 * l) 0 = bt (V0m 1 76) l ∧ V0x (1 + 3 + 2 * l) 1 = V0m 1 l ∧ V0x (1 + 3 + 2 * l) 2 = V0m 1 (4 + l) ∧ V0x (1 + 3 + 2 * l) 3 = V0m 1 (8 + l) ∧ V0x (1 + 3 + 2 * l) 4 = V0m 1 (12 + l) ∧ V0x (1 + 3 + 2 * l) 5 = V0m 1 (16 + l) := by decide
  have z : ∀ l : Nat, l < 4 → V0x (1 + 3 + 2 * l) 0 = 0 ∧ bt (V0m 1 77) l = 0 ∧ V0x (1 + 3 + 2 * l) 1 = 0 ∧ V0x (1 + 3 + 2 * l) 2 = 0 ∧ V0x (1 + 3 + 2 * l) 3 = 0 ∧ V0x (1 + 3 + 2 * l) 4 = 0 ∧ V0x (1 + 3 + 2 * l) 5 = 0 := by decide
  obtain ⟨c0, c1, c2, c3, c4, c5⟩ := c l hl
  obtain ⟨z0, z7, z1, z2, z3, z4, z5⟩ := z l hl
  refine ⟨c0, c1, c2, c3, c4, c5, k l hl, fun h => by omega, ⟨fun h => by omega, fun h => absurd z0 h.1⟩, by omega, by omega, by omega, by omega, by omega⟩
theorem law_W0 : WR R0x V0x V0m := by
  have e : ∀ p : Nat, p < 8 → RPe (V0x (1 + 11 + p)) (V0m 1) p := by
    have h : ∀ p : Nat, p < 8 → V0x (1 + 11 + p) 0 = bt (V0m 1 78) p ∧ V0x (1 + 11 + p) 1 = V0m 1 (52 + p) ∧ V0x (1 + 11 + p) 2 = V0m 1 (60 + p) ∧ V0x (1 + 11 + p) 3 = V0m 1 (68 + p) := by decide
    exact h
  have t : ∀ u x : Nat, V0x u 5 = 0 → V0x u 1 = 0 → V0m 12 x = 0 → RTz u x V0x V0m := fun u x h1 h2 h3 => ⟨by rw [h1, h3], by rw [h1]; decide, by rw [h2]; decide, fun j hj => by rw [h1] at hj; omega⟩
  have g : ∀ k : Nat, k < 4 → isTx (R0x 66 k) := by decide
  have v : ∀ k : Nat, k < 4 → V0x (R0x 66 k) 5 = 0 ∧ V0x (R0x 66 k) 1 = 0 := by decide
  have d : ∀ k : Nat, k < 4 → ¬ R0x 66 k = R0x 72 1 ∧ ¬ R0x 66 k = R0x 60 0 := by decide
  have f : ∀ j k : Nat, j < 4 → k < 4 → j ≠ k → ¬ R0x 66 j = R0x 66 k := fun j k hj hk hn => by
    show ¬ 78 + 5 * j = 78 + 5 * k
    omega
  refine ⟨⟨⟨RPl0, e, by decide, by decide, by decide, by decide, by decide, by decide, by decide, by decide⟩, by decide⟩, rfl, Or.inl rfl, ⟨⟨⟨by decide, t _ _ rfl rfl rfl⟩, fun k hk => ⟨g k hk, t _ _ (v k hk).1 (v k hk).2 rfl⟩⟩, by decide, by decide, d, f⟩, ⟨rfl, by decide, fun k hk => ?_⟩⟩
  exact absurd hk (by rw [show V0m 0 4 = 0 from rfl]; omega)

abbrev z0I (x : Int × Int) : Prop := x.1 ≤ 0 ∧ 0 ≤ x.2
theorem rgP_z (k : Nat) : z0I (rgP k) := by unfold rgP; split <;> decide
theorem rgE_z (k : Nat) : z0I (rgE k) := by unfold rgE; split <;> decide
theorem rgT_z (k : Nat) : z0I (rgT k) := by unfold rgT; split <;> decide
theorem rgC_z (k : Nat) : z0I (rgC k) := by unfold rgC; split <;> decide
theorem rgW_z (k : Nat) : z0I (rgW k) := by unfold rgW; split <;> decide
theorem rgA_z (k : Nat) : z0I (rgA k) := by unfold rgA; split <;> decide
theorem rgLa_z (r k : Nat) : z0I (rgLa r k) := by
  unfold rgLa
  split
  · decide
  · split
    · split
      · exact rgP_z k
      · decide
    · exact rgE_z k
theorem rgTx_z (r k : Nat) : z0I (rgTx r k) := by
  unfold rgTx
  split
  · exact rgT_z k
  · split <;> decide
theorem ite_z {q : Prop} {dq : Decidable q} {x y : Int × Int} (h1 : z0I x) (h2 : z0I y) : z0I (if q then x else y) := by
  by_cases h : q
  · rw [if_pos h]; exact h1
  · rw [if_neg h]; exact h2
theorem rgX_z (i k : Nat) : z0I (rgX i k) := by
  have f : z0I fullI := by decide
  exact ite_z (by decide) (ite_z (rgLa_z _ _) (ite_z (by decide) (ite_z f (ite_z (rgTx_z _ _) (ite_z f (ite_z (rgA_z _) (ite_z f (ite_z (rgTx_z _ _) (ite_z (rgC_z _) (ite_z f (ite_z (by decide) (ite_z (by decide) (ite_z f (ite_z (rgW_z _) (ite_z f (ite_z (by decide) (ite_z (ite_z (rgP_z _) f) (ite_z (by decide) f))))))))))))))))))
theorem rgN_z (k : Nat) : z0I (rgN k) := by
  have f : z0I fullI := by decide
  exact ite_z (by decide) (ite_z (by decide) (ite_z f (ite_z (by decide) f)))
theorem rgF_z (k : Nat) : z0I (rgF k) := by unfold rgF; split <;> decide
theorem rgM_z (i k : Nat) : z0I (rgM i k) := by
  have f : z0I fullI := by decide
  exact ite_z (rgF_z k) (ite_z (rgN_z k) (ite_z (by decide) (ite_z (by decide) (ite_z (by decide) (ite_z (by decide) (ite_z (by decide) f))))))
theorem xpl_lt {i : Nat} (h : xpl i = true) : i < 129 := by
  simp [xpl] at h
  omega
theorem xpl_r0 : ∀ i : Nat, i < 129 → xpl i = true → rgX i 7 = fullI := by decide +kernel
theorem law_Ix (i k : Nat) : (rgX i k).1 ≤ V0x i k ∧ V0x i k ≤ (rgX i k).2 := by
  unfold V0x
  by_cases h1 : xpl i = true
  · rw [if_pos h1]
    by_cases h2 : k = 7
    · subst h2
      rw [if_pos rfl, xpl_r0 i (xpl_lt h1) h1]
      decide
    · rw [if_neg h2]; exact rgX_z i k
  · rw [if_neg h1]
    by_cases h2 : i = 1 ∨ i = 20 ∨ i = 39
    · rw [if_pos h2]
      by_cases h3 : k = 4
      · subst h3
        rw [if_pos rfl, rg_L h2]
        decide
      · rw [if_neg h3]; exact rgX_z i k
    · rw [if_neg h2]; exact rgX_z i k
theorem law_Im (i k : Nat) : (rgM i k).1 ≤ V0m i k ∧ V0m i k ≤ (rgM i k).2 := by
  unfold V0m
  by_cases h1 : i = 0
  · subst h1
    rw [if_pos rfl]
    by_cases h2 : k = 31
    · subst h2; decide
    · rw [if_neg h2]; exact rgM_z 0 k
  · rw [if_neg h1]
    by_cases h2 : i = 1
    · subst h2
      rw [if_pos rfl]
      by_cases h3 : k = 80
      · subst h3; decide
      · rw [if_neg h3]; exact rgM_z 1 k
    · rw [if_neg h2]; exact rgM_z i k
theorem law_I0 (i k : Nat) (h : k ≠ 80) (h2 : k ≠ 31) : V0m i k ≤ 8 := by
  unfold V0m
  rw [if_neg h2, if_neg h]
  split
  · decide
  · split <;> decide
theorem law_Ir (i k : Nat) : rfX i k (R0x i k) := by
  unfold rfX
  split
  · next h => subst h; intro _; exact Or.inl rfl
  · split
    · next h => subst h; intro _; exact Or.inr (Or.inl rfl)
    · split
      · next h =>
        subst h
        intro hk
        have : k = 0 ∨ k = 1 ∨ k = 2 ∨ k = 3 := by omega
        rcases this with rfl | rfl | rfl | rfl
        · exact Or.inr (Or.inr (Or.inl rfl))
        · exact Or.inr (Or.inr (Or.inr (Or.inl rfl)))
        · exact Or.inr (Or.inr (Or.inr (Or.inr (Or.inl rfl))))
        · exact Or.inr (Or.inr (Or.inr (Or.inr (Or.inr rfl))))
      · split
        · next h =>
          subst h
          refine ⟨fun hk => ?_, fun hk => ?_⟩
          · have : k = 0 ∨ k = 1 := by omega
            rcases this with rfl | rfl
            · exact Or.inl rfl
            · exact Or.inr rfl
          · rcases hk with rfl | rfl
            · exact Or.inl rfl
            · exact Or.inr rfl
        · trivial
theorem law_I : LI V0x J0 R0x V0m J0 R0m := by
  refine ⟨fun i k => ⟨law_Ix i k, fun _ => rfl⟩, fun _ _ => (by decide : R64 0), fun i k => law_Ir i k, ⟨fun i k => ⟨law_Im i k, fun _ => rfl⟩, fun q hq => Or.inr ⟨?_, ?_⟩, fun q hq => Or.inr ⟨?_, ?_⟩, fun q hq => Or.inr ⟨?_, ?_⟩⟩, fun _ _ => (by decide : R64 0), fun q hq hh => ?_, law_W0⟩
  · exact law_I0 _ _ (by omega) (by omega)
  · exact law_I0 _ _ (by omega) (by omega)
  · exact law_I0 _ _ (by omega) (by omega)
  · exact law_I0 _ _ (by omega) (by omega)
  · exact law_I0 _ _ (by omega) (by omega)
  · exact law_I0 _ _ (by omega) (by omega)
  · rw [show V0m 12 (q / 14) = 0 from rfl] at hh
    omega
theorem hd_yX11_init : yX11_init.cls ≠ "java/lang/invoke/MethodHandle" ∧ yX11_init.cls ≠ "java/lang/invoke/VarHandle" ∧ (parseMethodDescriptor yX11_init.desc).map (fun d => d.parameters.length) = some 0 := by decide +kernel
theorem hd_yX12_init : yX12_init.cls ≠ "java/lang/invoke/MethodHandle" ∧ yX12_init.cls ≠ "java/lang/invoke/VarHandle" ∧ (parseMethodDescriptor yX12_init.desc).map (fun d => d.parameters.length) = some 0 := by decide +kernel
set_option maxHeartbeats 4000000 in
set_option maxRecDepth 100000 in
theorem whole_start {p : Program} {e : Env} {s : State} {m : MethodId} {below : List Frame} {meth : Method} {c : Code} (l : Launch) (hflags : l.flags = flags0) {b L : Nat} {xs : Nat → Int32} (hL : L ≤ 3072) (C0 : lw_At p s m meth c b L xs) : W p l e room_1 s m #[Value.ref b] below meth c s.heap [] 0 0 (lw_Z below #[Value.ref b] s) (entryFrame m ([Value.ref b] : List Value).toArray 4) := by
  obtain ⟨hx, hb, hr, hml, hown, hts, hX, hbl, hlocks, hgv⟩ := id C0
  obtain ⟨D, cy, hK⟩ := law_K hts
  obtain ⟨aK, aV, hE⟩ := law_E hts hgv
  have hbA : ¬ (fun q : Nat => s.heap.size ≤ q) b := Nat.not_le.mpr hbl
  have C : xC2 p s m #[Value.ref b] meth c D (fun q => s.heap.size ≤ q) s.heap 4 code RL (xTY cy) := ⟨⟨hx, hb, hml, hown, fun w h => hts w (WG_in w h), hK.1, fun _ h => h, hlocks⟩, hK.2⟩
  have hP : va_P D vwCl [] s.heap := fun k q h => by simp at h
  have hD : va_D (fun q : Nat => s.heap.size ≤ q) [] := ⟨fun i j p q h => by simp at h, fun k q h => by simp at h⟩
  have hl := lv_entry ([.ref b]) (n := 4) (Nat.le_of_ble_eq_true rfl)
  rw [lg_entry_eq]
  generalize (lg_sl ([.ref b]) ++ List.replicate (4 - (lg_sl ([.ref b])).length) Slot.unset).toArray = ls at hl ⊢
  have hl : lv_has ls 4 [(0, .ref b)] := hl
  suffices h : xW p l e room_1 s m #[Value.ref b] below meth c D (fun q => s.heap.size ≤ q) s.heap 4 0 0 (lw_Z below #[Value.ref b] s) [] 0 [(0, .ref b)] [] from h s.heap [] ls hP hD va_S.rf hl
  refine x_gnew C (ci := 11) wk_L_7 wt_X11 wn_X11 wx_X11 tyX11 tyX11_ok vc_X11 (fs := [.null, .null, .null, vI 0, .null, .null, .null, .null, .null, .null, .null, .null]) (fun j hj => by rcases (show j = 0 ∨ j = 1 ∨ j = 2 ∨ j = 3 ∨ j = 4 ∨ j = 5 ∨ j = 6 ∨ j = 7 ∨ j = 8 ∨ j = 9 ∨ j = 10 ∨ j = 11 by omega) with rfl | rfl | rfl | rfl | rfl | rfl | rfl | rfl | rfl | rfl | rfl | rfl <;> rfl) (Nat.le_of_ble_eq_true rfl) (Nat.le_of_ble_eq_true rfl) dL_law_0 (ws2 := fun q1 => [(q1, .inr (11, [.null, .null, .null, vI 0, .null, .null, .null, .null, .null, .null, .null, .null]))]) (fun _ => rfl) (fun q1 => ?_)
  refine x_dup C.1 dL_law_3 rfl ?_
  refine x_callIv C (As := []) (rest := [.ref q1]) (k_X11 l D cy q1) (l1 := []) (l2 := []) rfl (w2 := fun ux => XW cy ux V0x J0 R0x) (fun _ => List.append_nil _) rfl wm_yX11_init wn_X11 wl_L_9 wi_yX11_init rfl hd_yX11_init rfl ⟨Nat.le_of_ble_eq_true rfl, Nat.le_of_ble_eq_true rfl⟩ (Nat.le_of_ble_eq_true rfl) ⟨Nat.le_of_ble_eq_true rfl, Nat.le_of_ble_eq_true rfl⟩ dL_law_4 (fun ux hux => ?_)
  subst hux
  refine x_astore_n C.1 (lv' := [(1, .ref (ux 0)), (0, .ref b)]) dL_law_7 (by decide) rfl ?_
  refine x_gnew C (ci := 12) wk_L_10 wt_X12 wn_X12 wx_X12 tyX12 tyX12_ok vc_X12 (fs := [.null, .null, .null, .null, vI 0, vI 0, vI 0, vI 0, vI 0, vI 0, vI 0, vI 0, vI 0, .null, .null, .null, .null, .null, .null, .null, .null, .null, .null, .null, .null, .null, .null, vI 0, vI 0, vI 0, .null, vI 0, vI 0, vI 0, vI 0, .null, .null, .null, .null, vJ 0, .null, .null, .null, .null, .null, .null, vI 0, vI 0, .null, vI 0, vI 0, .null, .null, vI 0]) (fun j hj => by rcases (show j = 0 ∨ j = 1 ∨ j = 2 ∨ j = 3 ∨ j = 4 ∨ j = 5 ∨ j = 6 ∨ j = 7 ∨ j = 8 ∨ j = 9 ∨ j = 10 ∨ j = 11 ∨ j = 12 ∨ j = 13 ∨ j = 14 ∨ j = 15 ∨ j = 16 ∨ j = 17 ∨ j = 18 ∨ j = 19 ∨ j = 20 ∨ j = 21 ∨ j = 22 ∨ j = 23 ∨ j = 24 ∨ j = 25 ∨ j = 26 ∨ j = 27 ∨ j = 28 ∨ j = 29 ∨ j = 30 ∨ j = 31 ∨ j = 32 ∨ j = 33 ∨ j = 34 ∨ j = 35 ∨ j = 36 ∨ j = 37 ∨ j = 38 ∨ j = 39 ∨ j = 40 ∨ j = 41 ∨ j = 42 ∨ j = 43 ∨ j = 44 ∨ j = 45 ∨ j = 46 ∨ j = 47 ∨ j = 48 ∨ j = 49 ∨ j = 50 ∨ j = 51 ∨ j = 52 ∨ j = 53 by omega) with rfl | rfl | rfl | rfl | rfl | rfl | rfl | rfl | rfl | rfl | rfl | rfl | rfl | rfl | rfl | rfl | rfl | rfl | rfl | rfl | rfl | rfl | rfl | rfl | rfl | rfl | rfl | rfl | rfl | rfl | rfl | rfl | rfl | rfl | rfl | rfl | rfl | rfl | rfl | rfl | rfl | rfl | rfl | rfl | rfl | rfl | rfl | rfl | rfl | rfl | rfl | rfl | rfl | rfl <;> rfl) (Nat.le_of_ble_eq_true rfl) (Nat.le_of_ble_eq_true rfl) dL_law_8 (ws2 := fun q2 => XW cy ux V0x J0 R0x ++ [(q2, .inr (12, [.null, .null, .null, .null, vI 0, vI 0, vI 0, vI 0, vI 0, vI 0, vI 0, vI 0, vI 0, .null, .null, .null, .null, .null, .null, .null, .null, .null, .null, .null, .null, .null, .null, vI 0, vI 0, vI 0, .null, vI 0, vI 0, vI 0, vI 0, .null, .null, .null, .null, vJ 0, .null, .null, .null, .null, .null, .null, vI 0, vI 0, .null, vI 0, vI 0, .null, .null, vI 0]))]) (fun _ => rfl) (fun q2 => ?_)
  refine x_dup C.1 dL_law_11 rfl ?_
  refine x_callIv C (As := []) (rest := [.ref q2]) (k_X12 l D cy q2) (l1 := XW cy ux V0x J0 R0x) (l2 := []) (List.append_nil _).symm (w2 := fun um => XW cy ux V0x J0 R0x ++ MW cy um V0m J0 R0m) (fun _ => List.append_nil _) rfl wm_yX12_init wn_X12 wl_L_12 wi_yX12_init rfl hd_yX12_init rfl ⟨Nat.le_of_ble_eq_true rfl, Nat.le_of_ble_eq_true rfl⟩ (Nat.le_of_ble_eq_true rfl) ⟨Nat.le_of_ble_eq_true rfl, Nat.le_of_ble_eq_true rfl⟩ dL_law_12 (fun um hum => ?_)
  subst hum
  refine x_astore_n C.1 (lv' := [(2, .ref (um 0)), (1, .ref (ux 0)), (0, .ref b)]) dL_law_15 (by decide) rfl ?_
  refine x_iconst C.1 (n := 0) dL_law_16 ?_
  refine x_istore_n C.1 (lv' := [(3, vI 0), (2, .ref (um 0)), (1, .ref (ux 0)), (0, .ref b)]) dL_law_17 (by decide) rfl ?_
  exact law_body l D cy aK aV C hE hr hX hbl hbA hL ux um V0x J0 R0x V0m J0 R0m law_I
