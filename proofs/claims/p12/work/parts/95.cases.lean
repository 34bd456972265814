set_option maxHeartbeats 8000000 in
set_option maxRecDepth 100000 in
theorem law_case_0 {p : Program} {e : Env} {s : State} {m : MethodId} {below : List Frame} {meth : Method} {c : Code} (l : Launch) (D : va_G) (cy : Nat → ClassId) {b L : Nat} {xs : Nat → Int32} (aK aV : Nat → Nat) (C : xC2 p s m #[Value.ref b] meth c D (fun q => s.heap.size ≤ q) s.heap 4 code RL (xTY cy)) (hE : zE aK aV (fun q => s.heap.size ≤ q) s s.heap) (hr : meth.sig.returnType = ret) (hX : va_X b L xs s s.heap) (hbl : b < s.heap.size) (hbA : ¬ (fun q : Nat => s.heap.size ≤ q) b) (hL : L ≤ 3072) (ux um : Nat → Nat) (i : Int) (hi : 0 ≤ i ∧ i + 6 ≤ L) (Vx Jx : Nat → Nat → Int) (Rx : Nat → Nat → Nat) (Vm Jm : Nat → Nat → Int) (Rm : Nat → Nat → Nat) (hLI : LI Vx Jx Rx Vm Jm Rm) (kk : ∀ (Vx Jx : Nat → Nat → Int) (Rx : Nat → Nat → Nat) (Vm Jm : Nat → Nat → Int) (Rm : Nat → Nat → Nat), LI Vx Jx Rx Vm Jm Rm → xW p l e room_1 s m #[Value.ref b] below meth c D (fun q => s.heap.size ≤ q) s.heap 4 162 8366 (lw_Z below #[Value.ref b] s) (XW cy ux Vx Jx Rx ++ MW cy um Vm Jm Rm) 1495 [(3, vI i), (2, .ref (um 0)), (1, .ref (ux 0)), (0, .ref b)] []) : xW p l e room_1 s m #[Value.ref b] below meth c D (fun q => s.heap.size ≤ q) s.heap 4 162 8366 (lw_Z below #[Value.ref b] s) (XW cy ux Vx Jx Rx ++ MW cy um Vm Jm Rm) 180 [(3, vI i), (2, .ref (um 0)), (1, .ref (ux 0)), (0, .ref b)] [] := by
  obtain ⟨hVx, hJx, hRx, hVm, hJm, hWm, hKk⟩ := hLI
  refine x_aload_n C.1 dL_law_180 2 rfl ?_
  refine x_aload_n C.1 dL_law_181 3 rfl ?_
  refine x_iload_n C.1 dL_law_182 0 rfl ?_
  refine x_iconst C.1 (n := 1) dL_law_183 ?_
  refine x_iadd C.1 (v := i + 1) (by omega) dL_law_184 ?_
  refine x_sld C (b := b) (i := i + 1) hX hbl hbA (by omega) (by omega) dL_law_185 ?_
  refine x_aload_n C.1 dL_law_186 3 rfl ?_
  refine x_iload_n C.1 dL_law_187 0 rfl ?_
  refine x_iconst C.1 (n := 2) dL_law_188 ?_
  refine x_iadd C.1 (v := i + 2) (by omega) dL_law_189 ?_
  refine x_sld C (b := b) (i := i + 2) hX hbl hbA (by omega) (by omega) dL_law_190 ?_
  refine x_aload_n C.1 dL_law_191 3 rfl ?_
  refine x_iload_n C.1 dL_law_192 0 rfl ?_
  refine x_iconst C.1 (n := 3) dL_law_193 ?_
  refine x_iadd C.1 (v := i + 3) (by omega) dL_law_194 ?_
  refine x_sld C (b := b) (i := i + 3) hX hbl hbA (by omega) (by omega) dL_law_195 ?_
  refine x_aload_n C.1 dL_law_196 3 rfl ?_
  refine x_iload_n C.1 dL_law_197 0 rfl ?_
  refine x_iconst C.1 (n := 4) dL_law_198 ?_
  refine x_iadd C.1 (v := i + 4) (by omega) dL_law_199 ?_
  refine x_sld C (b := b) (i := i + 4) hX hbl hbA (by omega) (by omega) dL_law_200 ?_
  refine x_callVi C (As := [vI ((xs (i + 1).toNat).toInt), vI ((xs (i + 2).toNat).toInt), vI ((xs (i + 3).toNat).toInt), vI ((xs (i + 4).toNat).toInt)]) (rest := []) 0 law_x vc_X11 (s_plant l D cy ux Vx Vx Jx Rx hVx hJx hRx ((xs (i + 1).toNat).toInt) (xi_r _) ((xs (i + 2).toNat).toInt) (xi_r _) ((xs (i + 3).toNat).toInt) (xi_r _) ((xs (i + 4).toNat).toInt) (xi_r _)) (l1 := []) (l2 := MW cy um Vm Jm Rm) rfl (w2 := fun u1 : Nat → Nat → Int => XW cy ux u1 Jx Rx ++ MW cy um Vm Jm Rm) (fun _ => rfl) rfl wm_yX11_plant wn_X11 wl_L_13 wi_yX11_plant we_yX11_plant hd_yX11_plant rfl ⟨Nat.le_of_ble_eq_true rfl, Nat.le_of_ble_eq_true rfl⟩ (Nat.le_of_ble_eq_true rfl) ⟨Nat.le_of_ble_eq_true rfl, Nat.le_of_ble_eq_true rfl⟩ dL_law_201 (fun r1 u1 hr1 h1 => ?_)
  obtain ⟨hS1, he1_0, hBq1, hFq1⟩ := h1
  have hQ1 : XI u1 u1 := hS1
  refine x_pop C.1 dL_law_204 rfl ?_
  refine x_aload_n C.1 dL_law_205 1 rfl ?_
  refine x_aload_n C.1 dL_law_206 3 rfl ?_
  refine x_iload_n C.1 dL_law_207 0 rfl ?_
  refine x_iconst C.1 (n := 1) dL_law_208 ?_
  refine x_iadd C.1 (v := i + 1) (by omega) dL_law_209 ?_
  refine x_sld C (b := b) (i := i + 1) hX hbl hbA (by omega) (by omega) dL_law_210 ?_
  refine x_aload_n C.1 dL_law_211 3 rfl ?_
  refine x_iload_n C.1 dL_law_212 0 rfl ?_
  refine x_iconst C.1 (n := 2) dL_law_213 ?_
  refine x_iadd C.1 (v := i + 2) (by omega) dL_law_214 ?_
  refine x_sld C (b := b) (i := i + 2) hX hbl hbA (by omega) (by omega) dL_law_215 ?_
  refine x_aload_n C.1 dL_law_216 3 rfl ?_
  refine x_iload_n C.1 dL_law_217 0 rfl ?_
  refine x_iconst C.1 (n := 3) dL_law_218 ?_
  refine x_iadd C.1 (v := i + 3) (by omega) dL_law_219 ?_
  refine x_sld C (b := b) (i := i + 3) hX hbl hbA (by omega) (by omega) dL_law_220 ?_
  refine x_aload_n C.1 dL_law_221 3 rfl ?_
  refine x_iload_n C.1 dL_law_222 0 rfl ?_
  refine x_iconst C.1 (n := 4) dL_law_223 ?_
  refine x_iadd C.1 (v := i + 4) (by omega) dL_law_224 ?_
  refine x_sld C (b := b) (i := i + 4) hX hbl hbA (by omega) (by omega) dL_law_225 ?_
  refine x_callVi C (As := [vI ((xs (i + 1).toNat).toInt), vI ((xs (i + 2).toNat).toInt), vI ((xs (i + 3).toNat).toInt), vI ((xs (i + 4).toNat).toInt)]) (rest := []) 129 law_m vc_X12 (m_plant l D cy um Vm Vm Jm Rm hVm hJm trivial ((xs (i + 1).toNat).toInt) (xi_r _) ((xs (i + 2).toNat).toInt) (xi_r _) ((xs (i + 3).toNat).toInt) (xi_r _) ((xs (i + 4).toNat).toInt) (xi_r _)) (l1 := XW cy ux u1 Jx Rx) (l2 := []) (List.append_nil _).symm (w2 := fun u2 : Nat → Nat → Int => XW cy ux u1 Jx Rx ++ MW cy um u2 Jm Rm) (fun _ => List.append_nil _) rfl wm_yX12_plant wn_X12 wl_L_17 wi_yX12_plant we_yX12_plant hd_yX12_plant rfl ⟨Nat.le_of_ble_eq_true rfl, Nat.le_of_ble_eq_true rfl⟩ (Nat.le_of_ble_eq_true rfl) ⟨Nat.le_of_ble_eq_true rfl, Nat.le_of_ble_eq_true rfl⟩ dL_law_226 (fun r2 u2 hr2 h2 => ?_)
  obtain ⟨hS2, he2_0, hBq2, hFq2⟩ := h2
  have hQ2 : MI u2 u2 := MI.sf hS2
  have hW2 : WP u2 := WP.of hS2 hWm
  have hL2 := w_plant hKk hFq1 hFq2
  have hKq2 : WR Rx u1 u2 := hL2.2
  have hA2 := hL2.1
  refine x_pop C.1 dL_law_229 rfl ?_
  refine x_goto C.1 (tgt := 1495) dL_law_230 (by decide) ?_
  exact kk u1 Jx Rx u2 Jm Rm ⟨hQ1, hJx, hRx, hQ2, hJm, hW2, hKq2⟩
set_option maxHeartbeats 8000000 in
set_option maxRecDepth 100000 in
theorem law_case_1 {p : Program} {e : Env} {s : State} {m : MethodId} {below : List Frame} {meth : Method} {c : Code} (l : Launch) (D : va_G) (cy : Nat → ClassId) {b L : Nat} {xs : Nat → Int32} (aK aV : Nat → Nat) (C : xC2 p s m #[Value.ref b] meth c D (fun q => s.heap.size ≤ q) s.heap 4 code RL (xTY cy)) (hE : zE aK aV (fun q => s.heap.size ≤ q) s s.heap) (hr : meth.sig.returnType = ret) (hX : va_X b L xs s s.heap) (hbl : b < s.heap.size) (hbA : ¬ (fun q : Nat => s.heap.size ≤ q) b) (hL : L ≤ 3072) (ux um : Nat → Nat) (i : Int) (hi : 0 ≤ i ∧ i + 6 ≤ L) (Vx Jx : Nat → Nat → Int) (Rx : Nat → Nat → Nat) (Vm Jm : Nat → Nat → Int) (Rm : Nat → Nat → Nat) (hLI : LI Vx Jx Rx Vm Jm Rm) (kk : ∀ (Vx Jx : Nat → Nat → Int) (Rx : Nat → Nat → Nat) (Vm Jm : Nat → Nat → Int) (Rm : Nat → Nat → Nat), LI Vx Jx Rx Vm Jm Rm → xW p l e room_1 s m #[Value.ref b] below meth c D (fun q => s.heap.size ≤ q) s.heap 4 162 8366 (lw_Z below #[Value.ref b] s) (XW cy ux Vx Jx Rx ++ MW cy um Vm Jm Rm) 1495 [(3, vI i), (2, .ref (um 0)), (1, .ref (ux 0)), (0, .ref b)] []) : xW p l e room_1 s m #[Value.ref b] below meth c D (fun q => s.heap.size ≤ q) s.heap 4 162 8366 (lw_Z below #[Value.ref b] s) (XW cy ux Vx Jx Rx ++ MW cy um Vm Jm Rm) 233 [(3, vI i), (2, .ref (um 0)), (1, .ref (ux 0)), (0, .ref b)] [] := by
  obtain ⟨hVx, hJx, hRx, hVm, hJm, hWm, hKk⟩ := hLI
  refine x_aload_n C.1 dL_law_233 2 rfl ?_
  refine x_aload_n C.1 dL_law_234 3 rfl ?_
  refine x_iload_n C.1 dL_law_235 0 rfl ?_
  refine x_iconst C.1 (n := 1) dL_law_236 ?_
  refine x_iadd C.1 (v := i + 1) (by omega) dL_law_237 ?_
  refine x_sld C (b := b) (i := i + 1) hX hbl hbA (by omega) (by omega) dL_law_238 ?_
  refine x_aload_n C.1 dL_law_239 3 rfl ?_
  refine x_iload_n C.1 dL_law_240 0 rfl ?_
  refine x_iconst C.1 (n := 2) dL_law_241 ?_
  refine x_iadd C.1 (v := i + 2) (by omega) dL_law_242 ?_
  refine x_sld C (b := b) (i := i + 2) hX hbl hbA (by omega) (by omega) dL_law_243 ?_
  refine x_aload_n C.1 dL_law_244 3 rfl ?_
  refine x_iload_n C.1 dL_law_245 0 rfl ?_
  refine x_iconst C.1 (n := 3) dL_law_246 ?_
  refine x_iadd C.1 (v := i + 3) (by omega) dL_law_247 ?_
  refine x_sld C (b := b) (i := i + 3) hX hbl hbA (by omega) (by omega) dL_law_248 ?_
  refine x_callVi C (As := [vI ((xs (i + 1).toNat).toInt), vI ((xs (i + 2).toNat).toInt), vI ((xs (i + 3).toNat).toInt)]) (rest := []) 0 law_x vc_X11 (s_person l D cy ux Vx Vx Jx Rx hVx hJx hRx ((xs (i + 1).toNat).toInt) (xi_r _) ((xs (i + 2).toNat).toInt) (xi_r _) ((xs (i + 3).toNat).toInt) (xi_r _)) (l1 := []) (l2 := MW cy um Vm Jm Rm) rfl (w2 := fun u3 : Nat → Nat → Int => XW cy ux u3 Jx Rx ++ MW cy um Vm Jm Rm) (fun _ => rfl) rfl wm_yX11_person wn_X11 wl_L_18 wi_yX11_person we_yX11_person hd_yX11_person rfl ⟨Nat.le_of_ble_eq_true rfl, Nat.le_of_ble_eq_true rfl⟩ (Nat.le_of_ble_eq_true rfl) ⟨Nat.le_of_ble_eq_true rfl, Nat.le_of_ble_eq_true rfl⟩ dL_law_249 (fun r3 u3 hr3 h3 => ?_)
  obtain ⟨hS3, he3_0, hBq3, hFq3⟩ := h3
  have hQ3 : XI u3 u3 := XI.toU hS3
  refine x_pop C.1 dL_law_252 rfl ?_
  refine x_aload_n C.1 dL_law_253 1 rfl ?_
  refine x_aload_n C.1 dL_law_254 3 rfl ?_
  refine x_iload_n C.1 dL_law_255 0 rfl ?_
  refine x_iconst C.1 (n := 1) dL_law_256 ?_
  refine x_iadd C.1 (v := i + 1) (by omega) dL_law_257 ?_
  refine x_sld C (b := b) (i := i + 1) hX hbl hbA (by omega) (by omega) dL_law_258 ?_
  refine x_aload_n C.1 dL_law_259 3 rfl ?_
  refine x_iload_n C.1 dL_law_260 0 rfl ?_
  refine x_iconst C.1 (n := 2) dL_law_261 ?_
  refine x_iadd C.1 (v := i + 2) (by omega) dL_law_262 ?_
  refine x_sld C (b := b) (i := i + 2) hX hbl hbA (by omega) (by omega) dL_law_263 ?_
  refine x_aload_n C.1 dL_law_264 3 rfl ?_
  refine x_iload_n C.1 dL_law_265 0 rfl ?_
  refine x_iconst C.1 (n := 3) dL_law_266 ?_
  refine x_iadd C.1 (v := i + 3) (by omega) dL_law_267 ?_
  refine x_sld C (b := b) (i := i + 3) hX hbl hbA (by omega) (by omega) dL_law_268 ?_
  refine x_callVi C (As := [vI ((xs (i + 1).toNat).toInt), vI ((xs (i + 2).toNat).toInt), vI ((xs (i + 3).toNat).toInt)]) (rest := []) 129 law_m vc_X12 (m_person l D cy um Vm Vm Jm Rm hVm hJm trivial ((xs (i + 1).toNat).toInt) (xi_r _) ((xs (i + 2).toNat).toInt) (xi_r _) ((xs (i + 3).toNat).toInt) (xi_r _)) (l1 := XW cy ux u3 Jx Rx) (l2 := []) (List.append_nil _).symm (w2 := fun u4 : Nat → Nat → Int => XW cy ux u3 Jx Rx ++ MW cy um u4 Jm Rm) (fun _ => List.append_nil _) rfl wm_yX12_person wn_X12 wl_L_22 wi_yX12_person we_yX12_person hd_yX12_person rfl ⟨Nat.le_of_ble_eq_true rfl, Nat.le_of_ble_eq_true rfl⟩ (Nat.le_of_ble_eq_true rfl) ⟨Nat.le_of_ble_eq_true rfl, Nat.le_of_ble_eq_true rfl⟩ dL_law_269 (fun r4 u4 hr4 h4 => ?_)
  obtain ⟨hS4, he4_0, hBq4, hFq4⟩ := h4
  have hQ4 : MI u4 u4 := MI.sf hS4
  have hW4 : WP u4 := WP.of hS4 hWm
  have hL4 := w_person hKk hFq3 hFq4
  have hKq4 : WR Rx u3 u4 := hL4.2
  have hA4 := hL4.1
  refine x_pop C.1 dL_law_272 rfl ?_
  refine x_goto C.1 (tgt := 1495) dL_law_273 (by decide) ?_
  exact kk u3 Jx Rx u4 Jm Rm ⟨hQ3, hJx, hRx, hQ4, hJm, hW4, hKq4⟩
set_option maxHeartbeats 8000000 in
set_option maxRecDepth 100000 in
theorem law_case_2 {p : Program} {e : Env} {s : State} {m : MethodId} {below : List Frame} {meth : Method} {c : Code} (l : Launch) (D : va_G) (cy : Nat → ClassId) {b L : Nat} {xs : Nat → Int32} (aK aV : Nat → Nat) (C : xC2 p s m #[Value.ref b] meth c D (fun q => s.heap.size ≤ q) s.heap 4 code RL (xTY cy)) (hE : zE aK aV (fun q => s.heap.size ≤ q) s s.heap) (hr : meth.sig.returnType = ret) (hX : va_X b L xs s s.heap) (hbl : b < s.heap.size) (hbA : ¬ (fun q : Nat => s.heap.size ≤ q) b) (hL : L ≤ 3072) (ux um : Nat → Nat) (i : Int) (hi : 0 ≤ i ∧ i + 6 ≤ L) (Vx Jx : Nat → Nat → Int) (Rx : Nat → Nat → Nat) (Vm Jm : Nat → Nat → Int) (Rm : Nat → Nat → Nat) (hLI : LI Vx Jx Rx Vm Jm Rm) (kk : ∀ (Vx Jx : Nat → Nat → Int) (Rx : Nat → Nat → Nat) (Vm Jm : Nat → Nat → Int) (Rm : Nat → Nat → Nat), LI Vx Jx Rx Vm Jm Rm → xW p l e room_1 s m #[Value.ref b] below meth c D (fun q => s.heap.size ≤ q) s.heap 4 162 8366 (lw_Z below #[Value.ref b] s) (XW cy ux Vx Jx Rx ++ MW cy um Vm Jm Rm) 1495 [(3, vI i), (2, .ref (um 0)), (1, .ref (ux 0)), (0, .ref b)] []) : xW p l e room_1 s m #[Value.ref b] below meth c D (fun q => s.heap.size ≤ q) s.heap 4 162 8366 (lw_Z below #[Value.ref b] s) (XW cy ux Vx Jx Rx ++ MW cy um Vm Jm Rm) 276 [(3, vI i), (2, .ref (um 0)), (1, .ref (ux 0)), (0, .ref b)] [] := by
  obtain ⟨hVx, hJx, hRx, hVm, hJm, hWm, hKk⟩ := hLI
  refine x_aload_n C.1 dL_law_276 2 rfl ?_
  refine x_aload_n C.1 dL_law_277 3 rfl ?_
  refine x_iload_n C.1 dL_law_278 0 rfl ?_
  refine x_iconst C.1 (n := 1) dL_law_279 ?_
  refine x_iadd C.1 (v := i + 1) (by omega) dL_law_280 ?_
  refine x_sld C (b := b) (i := i + 1) hX hbl hbA (by omega) (by omega) dL_law_281 ?_
  refine x_aload_n C.1 dL_law_282 3 rfl ?_
  refine x_iload_n C.1 dL_law_283 0 rfl ?_
  refine x_iconst C.1 (n := 2) dL_law_284 ?_
  refine x_iadd C.1 (v := i + 2) (by omega) dL_law_285 ?_
  refine x_sld C (b := b) (i := i + 2) hX hbl hbA (by omega) (by omega) dL_law_286 ?_
  refine x_if_eq C.1 (tgt := 294) dL_law_287 (by decide) (xi_r _) (fun cz5 => ?_) (fun cz5 => ?_)
  · refine x_iconst C.1 (n := 0) dL_law_294 ?_
    refine x_callVi C (As := [vI ((xs (i + 1).toNat).toInt), vI 0]) (rest := []) 0 law_x vc_X11 (s_card l D cy ux Vx Vx Jx Rx hVx hJx hRx ((xs (i + 1).toNat).toInt) (xi_r _) 0 ⟨by decide, by decide⟩) (l1 := []) (l2 := MW cy um Vm Jm Rm) rfl (w2 := fun u6 : Nat → Nat → Int => XW cy ux u6 Jx Rx ++ MW cy um Vm Jm Rm) (fun _ => rfl) rfl wm_yX11_card wn_X11 wl_L_23 wi_yX11_card we_yX11_card hd_yX11_card rfl ⟨Nat.le_of_ble_eq_true rfl, Nat.le_of_ble_eq_true rfl⟩ (Nat.le_of_ble_eq_true rfl) ⟨Nat.le_of_ble_eq_true rfl, Nat.le_of_ble_eq_true rfl⟩ dL_law_295 (fun r6 u6 hr6 h6 => ?_)
    obtain ⟨hS6, _, hBq6, hFq6⟩ := h6
    have hQ6 : XI u6 u6 := hS6
    refine x_pop C.1 dL_law_298 rfl ?_
    refine x_aload_n C.1 dL_law_299 1 rfl ?_
    refine x_aload_n C.1 dL_law_300 3 rfl ?_
    refine x_iload_n C.1 dL_law_301 0 rfl ?_
    refine x_iconst C.1 (n := 1) dL_law_302 ?_
    refine x_iadd C.1 (v := i + 1) (by omega) dL_law_303 ?_
    refine x_sld C (b := b) (i := i + 1) hX hbl hbA (by omega) (by omega) dL_law_304 ?_
    refine x_aload_n C.1 dL_law_305 3 rfl ?_
    refine x_iload_n C.1 dL_law_306 0 rfl ?_
    refine x_iconst C.1 (n := 2) dL_law_307 ?_
    refine x_iadd C.1 (v := i + 2) (by omega) dL_law_308 ?_
    refine x_sld C (b := b) (i := i + 2) hX hbl hbA (by omega) (by omega) dL_law_309 ?_
    refine x_if_eq C.1 (tgt := 317) dL_law_310 (by decide) (xi_r _) (fun cz7 => ?_) (fun cz7 => ?_)
    · refine x_iconst C.1 (n := 0) dL_law_317 ?_
      refine x_callVi C (As := [vI ((xs (i + 1).toNat).toInt), vI 0]) (rest := []) 129 law_m vc_X12 (m_card l D cy um Vm Vm Jm Rm hVm hJm trivial ((xs (i + 1).toNat).toInt) (xi_r _) 0 ⟨by decide, by decide⟩) (l1 := XW cy ux u6 Jx Rx) (l2 := []) (List.append_nil _).symm (w2 := fun u8 : Nat → Nat → Int => XW cy ux u6 Jx Rx ++ MW cy um u8 Jm Rm) (fun _ => List.append_nil _) rfl wm_yX12_card wn_X12 wl_L_27 wi_yX12_card we_yX12_card hd_yX12_card rfl ⟨Nat.le_of_ble_eq_true rfl, Nat.le_of_ble_eq_true rfl⟩ (Nat.le_of_ble_eq_true rfl) ⟨Nat.le_of_ble_eq_true rfl, Nat.le_of_ble_eq_true rfl⟩ dL_law_318 (fun r8 u8 hr8 h8 => ?_)
      obtain ⟨hS8, hBq8, hFq8⟩ := h8
      have hQ8 : MI u8 u8 := MI.sf hS8
      have hW8 : WP u8 := WP.of hS8 hWm
      have hL8 := w_card hKk (by decide) hFq6 hFq8
      have hKq8 : WR Rx u6 u8 := hL8.2
      have hA8 := hL8.1
      refine x_pop C.1 dL_law_321 rfl ?_
      refine x_goto C.1 (tgt := 1495) dL_law_322 (by decide) ?_
      exact kk u6 Jx Rx u8 Jm Rm ⟨hQ6, hJx, hRx, hQ8, hJm, hW8, hKq8⟩
    · exact absurd cz5 cz7
  · refine x_iconst C.1 (n := 1) dL_law_290 ?_
    refine x_goto C.1 (tgt := 295) dL_law_291 (by decide) ?_
    refine x_callVi C (As := [vI ((xs (i + 1).toNat).toInt), vI 1]) (rest := []) 0 law_x vc_X11 (s_card l D cy ux Vx Vx Jx Rx hVx hJx hRx ((xs (i + 1).toNat).toInt) (xi_r _) 1 ⟨by decide, by decide⟩) (l1 := []) (l2 := MW cy um Vm Jm Rm) rfl (w2 := fun u9 : Nat → Nat → Int => XW cy ux u9 Jx Rx ++ MW cy um Vm Jm Rm) (fun _ => rfl) rfl wm_yX11_card wn_X11 wl_L_23 wi_yX11_card we_yX11_card hd_yX11_card rfl ⟨Nat.le_of_ble_eq_true rfl, Nat.le_of_ble_eq_true rfl⟩ (Nat.le_of_ble_eq_true rfl) ⟨Nat.le_of_ble_eq_true rfl, Nat.le_of_ble_eq_true rfl⟩ dL_law_295 (fun r9 u9 hr9 h9 => ?_)
    obtain ⟨hS9, _, hBq9, hFq9⟩ := h9
    have hQ9 : XI u9 u9 := hS9
    refine x_pop C.1 dL_law_298 rfl ?_
    refine x_aload_n C.1 dL_law_299 1 rfl ?_
    refine x_aload_n C.1 dL_law_300 3 rfl ?_
    refine x_iload_n C.1 dL_law_301 0 rfl ?_
    refine x_iconst C.1 (n := 1) dL_law_302 ?_
    refine x_iadd C.1 (v := i + 1) (by omega) dL_law_303 ?_
    refine x_sld C (b := b) (i := i + 1) hX hbl hbA (by omega) (by omega) dL_law_304 ?_
    refine x_aload_n C.1 dL_law_305 3 rfl ?_
    refine x_iload_n C.1 dL_law_306 0 rfl ?_
    refine x_iconst C.1 (n := 2) dL_law_307 ?_
    refine x_iadd C.1 (v := i + 2) (by omega) dL_law_308 ?_
    refine x_sld C (b := b) (i := i + 2) hX hbl hbA (by omega) (by omega) dL_law_309 ?_
    refine x_if_eq C.1 (tgt := 317) dL_law_310 (by decide) (xi_r _) (fun cz10 => ?_) (fun cz10 => ?_)
    · exact absurd cz10 cz5
    · refine x_iconst C.1 (n := 1) dL_law_313 ?_
      refine x_goto C.1 (tgt := 318) dL_law_314 (by decide) ?_
      refine x_callVi C (As := [vI ((xs (i + 1).toNat).toInt), vI 1]) (rest := []) 129 law_m vc_X12 (m_card l D cy um Vm Vm Jm Rm hVm hJm trivial ((xs (i + 1).toNat).toInt) (xi_r _) 1 ⟨by decide, by decide⟩) (l1 := XW cy ux u9 Jx Rx) (l2 := []) (List.append_nil _).symm (w2 := fun u11 : Nat → Nat → Int => XW cy ux u9 Jx Rx ++ MW cy um u11 Jm Rm) (fun _ => List.append_nil _) rfl wm_yX12_card wn_X12 wl_L_27 wi_yX12_card we_yX12_card hd_yX12_card rfl ⟨Nat.le_of_ble_eq_true rfl, Nat.le_of_ble_eq_true rfl⟩ (Nat.le_of_ble_eq_true rfl) ⟨Nat.le_of_ble_eq_true rfl, Nat.le_of_ble_eq_true rfl⟩ dL_law_318 (fun r11 u11 hr11 h11 => ?_)
      obtain ⟨hS11, hBq11, hFq11⟩ := h11
      have hQ11 : MI u11 u11 := MI.sf hS11
      have hW11 : WP u11 := WP.of hS11 hWm
      have hL11 := w_card hKk (by decide) hFq9 hFq11
      have hKq11 : WR Rx u9 u11 := hL11.2
      have hA11 := hL11.1
      refine x_pop C.1 dL_law_321 rfl ?_
      refine x_goto C.1 (tgt := 1495) dL_law_322 (by decide) ?_
      exact kk u9 Jx Rx u11 Jm Rm ⟨hQ9, hJx, hRx, hQ11, hJm, hW11, hKq11⟩
set_option maxHeartbeats 8000000 in
set_option maxRecDepth 100000 in
theorem law_case_3 {p : Program} {e : Env} {s : State} {m : MethodId} {below : List Frame} {meth : Method} {c : Code} (l : Launch) (D : va_G) (cy : Nat → ClassId) {b L : Nat} {xs : Nat → Int32} (aK aV : Nat → Nat) (C : xC2 p s m #[Value.ref b] meth c D (fun q => s.heap.size ≤ q) s.heap 4 code RL (xTY cy)) (hE : zE aK aV (fun q => s.heap.size ≤ q) s s.heap) (hr : meth.sig.returnType = ret) (hX : va_X b L xs s s.heap) (hbl : b < s.heap.size) (hbA : ¬ (fun q : Nat => s.heap.size ≤ q) b) (hL : L ≤ 3072) (ux um : Nat → Nat) (i : Int) (hi : 0 ≤ i ∧ i + 6 ≤ L) (Vx Jx : Nat → Nat → Int) (Rx : Nat → Nat → Nat) (Vm Jm : Nat → Nat → Int) (Rm : Nat → Nat → Nat) (hLI : LI Vx Jx Rx Vm Jm Rm) (kk : ∀ (Vx Jx : Nat → Nat → Int) (Rx : Nat → Nat → Nat) (Vm Jm : Nat → Nat → Int) (Rm : Nat → Nat → Nat), LI Vx Jx Rx Vm Jm Rm → xW p l e room_1 s m #[Value.ref b] below meth c D (fun q => s.heap.size ≤ q) s.heap 4 162 8366 (lw_Z below #[Value.ref b] s) (XW cy ux Vx Jx Rx ++ MW cy um Vm Jm Rm) 1495 [(3, vI i), (2, .ref (um 0)), (1, .ref (ux 0)), (0, .ref b)] []) : xW p l e room_1 s m #[Value.ref b] below meth c D (fun q => s.heap.size ≤ q) s.heap 4 162 8366 (lw_Z below #[Value.ref b] s) (XW cy ux Vx Jx Rx ++ MW cy um Vm Jm Rm) 325 [(3, vI i), (2, .ref (um 0)), (1, .ref (ux 0)), (0, .ref b)] [] := by
  obtain ⟨hVx, hJx, hRx, hVm, hJm, hWm, hKk⟩ := hLI
  refine x_aload_n C.1 dL_law_325 2 rfl ?_
  refine x_aload_n C.1 dL_law_326 3 rfl ?_
  refine x_iload_n C.1 dL_law_327 0 rfl ?_
  refine x_iconst C.1 (n := 1) dL_law_328 ?_
  refine x_iadd C.1 (v := i + 1) (by omega) dL_law_329 ?_
  refine x_sld C (b := b) (i := i + 1) hX hbl hbA (by omega) (by omega) dL_law_330 ?_
  refine x_aload_n C.1 dL_law_331 3 rfl ?_
  refine x_iload_n C.1 dL_law_332 0 rfl ?_
  refine x_iconst C.1 (n := 2) dL_law_333 ?_
  refine x_iadd C.1 (v := i + 2) (by omega) dL_law_334 ?_
  refine x_sld C (b := b) (i := i + 2) hX hbl hbA (by omega) (by omega) dL_law_335 ?_
  refine x_callVi C (As := [vI ((xs (i + 1).toNat).toInt), vI ((xs (i + 2).toNat).toInt)]) (rest := []) 0 law_x vc_X11 (s_pour l D cy ux Vx Vx Jx Rx hVx hJx hRx ((xs (i + 1).toNat).toInt) (xi_r _) ((xs (i + 2).toNat).toInt) (xi_r _)) (l1 := []) (l2 := MW cy um Vm Jm Rm) rfl (w2 := fun u12 : Nat → Nat → Int => XW cy ux u12 Jx Rx ++ MW cy um Vm Jm Rm) (fun _ => rfl) rfl wm_yX11_pour wn_X11 wl_L_28 wi_yX11_pour we_yX11_pour hd_yX11_pour rfl ⟨Nat.le_of_ble_eq_true rfl, Nat.le_of_ble_eq_true rfl⟩ (Nat.le_of_ble_eq_true rfl) ⟨Nat.le_of_ble_eq_true rfl, Nat.le_of_ble_eq_true rfl⟩ dL_law_336 (fun r12 u12 hr12 h12 => ?_)
  obtain ⟨hS12, hBq12, hFq12⟩ := h12
  have hQ12 : XI u12 u12 := XI.toU hS12
  refine x_pop C.1 dL_law_339 rfl ?_
  refine x_aload_n C.1 dL_law_340 1 rfl ?_
  refine x_aload_n C.1 dL_law_341 3 rfl ?_
  refine x_iload_n C.1 dL_law_342 0 rfl ?_
  refine x_iconst C.1 (n := 1) dL_law_343 ?_
  refine x_iadd C.1 (v := i + 1) (by omega) dL_law_344 ?_
  refine x_sld C (b := b) (i := i + 1) hX hbl hbA (by omega) (by omega) dL_law_345 ?_
  refine x_aload_n C.1 dL_law_346 3 rfl ?_
  refine x_iload_n C.1 dL_law_347 0 rfl ?_
  refine x_iconst C.1 (n := 2) dL_law_348 ?_
  refine x_iadd C.1 (v := i + 2) (by omega) dL_law_349 ?_
  refine x_sld C (b := b) (i := i + 2) hX hbl hbA (by omega) (by omega) dL_law_350 ?_
  refine x_callVi C (As := [vI ((xs (i + 1).toNat).toInt), vI ((xs (i + 2).toNat).toInt)]) (rest := []) 129 law_m vc_X12 (m_pour l D cy um Vm Vm Jm Rm hVm hJm trivial ((xs (i + 1).toNat).toInt) (xi_r _) ((xs (i + 2).toNat).toInt) (xi_r _)) (l1 := XW cy ux u12 Jx Rx) (l2 := []) (List.append_nil _).symm (w2 := fun u13 : Nat → Nat → Int => XW cy ux u12 Jx Rx ++ MW cy um u13 Jm Rm) (fun _ => List.append_nil _) rfl wm_yX12_pour wn_X12 wl_L_32 wi_yX12_pour we_yX12_pour hd_yX12_pour rfl ⟨Nat.le_of_ble_eq_true rfl, Nat.le_of_ble_eq_true rfl⟩ (Nat.le_of_ble_eq_true rfl) ⟨Nat.le_of_ble_eq_true rfl, Nat.le_of_ble_eq_true rfl⟩ dL_law_351 (fun r13 u13 hr13 h13 => ?_)
  obtain ⟨hS13, hBq13, hFq13⟩ := h13
  have hQ13 : MI u13 u13 := MI.sf hS13
  have hW13 : WP u13 := WP.of hS13 hWm
  have hL13 := w_pour hKk hFq12 hFq13
  have hKq13 : WR Rx u12 u13 := hL13.2
  have hA13 := hL13.1
  refine x_pop C.1 dL_law_354 rfl ?_
  refine x_goto C.1 (tgt := 1495) dL_law_355 (by decide) ?_
  exact kk u12 Jx Rx u13 Jm Rm ⟨hQ12, hJx, hRx, hQ13, hJm, hW13, hKq13⟩
set_option maxHeartbeats 8000000 in
set_option maxRecDepth 100000 in
theorem law_case_4 {p : Program} {e : Env} {s : State} {m : MethodId} {below : List Frame} {meth : Method} {c : Code} (l : Launch) (D : va_G) (cy : Nat → ClassId) {b L : Nat} {xs : Nat → Int32} (aK aV : Nat → Nat) (C : xC2 p s m #[Value.ref b] meth c D (fun q => s.heap.size ≤ q) s.heap 4 code RL (xTY cy)) (hE : zE aK aV (fun q => s.heap.size ≤ q) s s.heap) (hr : meth.sig.returnType = ret) (hX : va_X b L xs s s.heap) (hbl : b < s.heap.size) (hbA : ¬ (fun q : Nat => s.heap.size ≤ q) b) (hL : L ≤ 3072) (ux um : Nat → Nat) (i : Int) (hi : 0 ≤ i ∧ i + 6 ≤ L) (Vx Jx : Nat → Nat → Int) (Rx : Nat → Nat → Nat) (Vm Jm : Nat → Nat → Int) (Rm : Nat → Nat → Nat) (hLI : LI Vx Jx Rx Vm Jm Rm) (kk : ∀ (Vx Jx : Nat → Nat → Int) (Rx : Nat → Nat → Nat) (Vm Jm : Nat → Nat → Int) (Rm : Nat → Nat → Nat), LI Vx Jx Rx Vm Jm Rm → xW p l e room_1 s m #[Value.ref b] below meth c D (fun q => s.heap.size ≤ q) s.heap 4 162 8366 (lw_Z below #[Value.ref b] s) (XW cy ux Vx Jx Rx ++ MW cy um Vm Jm Rm) 1495 [(3, vI i), (2, .ref (um 0)), (1, .ref (ux 0)), (0, .ref b)] []) : xW p l e room_1 s m #[Value.ref b] below meth c D (fun q => s.heap.size ≤ q) s.heap 4 162 8366 (lw_Z below #[Value.ref b] s) (XW cy ux Vx Jx Rx ++ MW cy um Vm Jm Rm) 358 [(3, vI i), (2, .ref (um 0)), (1, .ref (ux 0)), (0, .ref b)] [] := by
  obtain ⟨hVx, hJx, hRx, hVm, hJm, hWm, hKk⟩ := hLI
  refine x_aload_n C.1 dL_law_358 2 rfl ?_
  refine x_aload_n C.1 dL_law_359 3 rfl ?_
  refine x_iload_n C.1 dL_law_360 0 rfl ?_
  refine x_iconst C.1 (n := 1) dL_law_361 ?_
  refine x_iadd C.1 (v := i + 1) (by omega) dL_law_362 ?_
  refine x_sld C (b := b) (i := i + 1) hX hbl hbA (by omega) (by omega) dL_law_363 ?_
  refine x_aload_n C.1 dL_law_364 3 rfl ?_
  refine x_iload_n C.1 dL_law_365 0 rfl ?_
  refine x_iconst C.1 (n := 2) dL_law_366 ?_
  refine x_iadd C.1 (v := i + 2) (by omega) dL_law_367 ?_
  refine x_sld C (b := b) (i := i + 2) hX hbl hbA (by omega) (by omega) dL_law_368 ?_
  refine x_aload_n C.1 dL_law_369 3 rfl ?_
  refine x_iload_n C.1 dL_law_370 0 rfl ?_
  refine x_iconst C.1 (n := 3) dL_law_371 ?_
  refine x_iadd C.1 (v := i + 3) (by omega) dL_law_372 ?_
  refine x_sld C (b := b) (i := i + 3) hX hbl hbA (by omega) (by omega) dL_law_373 ?_
  refine x_aload_n C.1 dL_law_374 3 rfl ?_
  refine x_iload_n C.1 dL_law_375 0 rfl ?_
  refine x_iconst C.1 (n := 4) dL_law_376 ?_
  refine x_iadd C.1 (v := i + 4) (by omega) dL_law_377 ?_
  refine x_sld C (b := b) (i := i + 4) hX hbl hbA (by omega) (by omega) dL_law_378 ?_
  refine x_aload_n C.1 dL_law_379 3 rfl ?_
  refine x_iload_n C.1 dL_law_380 0 rfl ?_
  refine x_iconst C.1 (n := 5) dL_law_381 ?_
  refine x_iadd C.1 (v := i + 5) (by omega) dL_law_382 ?_
  refine x_sld C (b := b) (i := i + 5) hX hbl hbA (by omega) (by omega) dL_law_383 ?_
  refine x_callVi C (As := [vI ((xs (i + 1).toNat).toInt), vI ((xs (i + 2).toNat).toInt), vI ((xs (i + 3).toNat).toInt), vI ((xs (i + 4).toNat).toInt), vI ((xs (i + 5).toNat).toInt)]) (rest := []) 0 law_x vc_X11 (s_feed l D cy ux Vx Vx Jx Rx hVx hJx hRx ((xs (i + 1).toNat).toInt) (xi_r _) ((xs (i + 2).toNat).toInt) (xi_r _) ((xs (i + 3).toNat).toInt) (xi_r _) ((xs (i + 4).toNat).toInt) (xi_r _) ((xs (i + 5).toNat).toInt) (xi_r _)) (l1 := []) (l2 := MW cy um Vm Jm Rm) rfl (w2 := fun u14 : Nat → Nat → Int => XW cy ux u14 Jx Rx ++ MW cy um Vm Jm Rm) (fun _ => rfl) rfl wm_yX11_feed wn_X11 wl_L_33 wi_yX11_feed we_yX11_feed hd_yX11_feed rfl ⟨Nat.le_of_ble_eq_true rfl, Nat.le_of_ble_eq_true rfl⟩ (Nat.le_of_ble_eq_true rfl) ⟨Nat.le_of_ble_eq_true rfl, Nat.le_of_ble_eq_true rfl⟩ dL_law_384 (fun r14 u14 hr14 h14 => ?_)
  obtain ⟨hS14, hBq14, hFq14⟩ := h14
  have hQ14 : XI u14 u14 := XI.toU hS14
  refine x_pop C.1 dL_law_387 rfl ?_
  refine x_aload_n C.1 dL_law_388 1 rfl ?_
  refine x_aload_n C.1 dL_law_389 3 rfl ?_
  refine x_iload_n C.1 dL_law_390 0 rfl ?_
  refine x_iconst C.1 (n := 1) dL_law_391 ?_
  refine x_iadd C.1 (v := i + 1) (by omega) dL_law_392 ?_
  refine x_sld C (b := b) (i := i + 1) hX hbl hbA (by omega) (by omega) dL_law_393 ?_
  refine x_aload_n C.1 dL_law_394 3 rfl ?_
  refine x_iload_n C.1 dL_law_395 0 rfl ?_
  refine x_iconst C.1 (n := 2) dL_law_396 ?_
  refine x_iadd C.1 (v := i + 2) (by omega) dL_law_397 ?_
  refine x_sld C (b := b) (i := i + 2) hX hbl hbA (by omega) (by omega) dL_law_398 ?_
  refine x_aload_n C.1 dL_law_399 3 rfl ?_
  refine x_iload_n C.1 dL_law_400 0 rfl ?_
  refine x_iconst C.1 (n := 3) dL_law_401 ?_
  refine x_iadd C.1 (v := i + 3) (by omega) dL_law_402 ?_
  refine x_sld C (b := b) (i := i + 3) hX hbl hbA (by omega) (by omega) dL_law_403 ?_
  refine x_aload_n C.1 dL_law_404 3 rfl ?_
  refine x_iload_n C.1 dL_law_405 0 rfl ?_
  refine x_iconst C.1 (n := 4) dL_law_406 ?_
  refine x_iadd C.1 (v := i + 4) (by omega) dL_law_407 ?_
  refine x_sld C (b := b) (i := i + 4) hX hbl hbA (by omega) (by omega) dL_law_408 ?_
  refine x_aload_n C.1 dL_law_409 3 rfl ?_
  refine x_iload_n C.1 dL_law_410 0 rfl ?_
  refine x_iconst C.1 (n := 5) dL_law_411 ?_
  refine x_iadd C.1 (v := i + 5) (by omega) dL_law_412 ?_
  refine x_sld C (b := b) (i := i + 5) hX hbl hbA (by omega) (by omega) dL_law_413 ?_
  refine x_callVi C (As := [vI ((xs (i + 1).toNat).toInt), vI ((xs (i + 2).toNat).toInt), vI ((xs (i + 3).toNat).toInt), vI ((xs (i + 4).toNat).toInt), vI ((xs (i + 5).toNat).toInt)]) (rest := []) 129 law_m vc_X12 (m_feed l D cy um Vm Vm Jm Rm hVm hJm trivial ((xs (i + 1).toNat).toInt) (xi_r _) ((xs (i + 2).toNat).toInt) (xi_r _) ((xs (i + 3).toNat).toInt) (xi_r _) ((xs (i + 4).toNat).toInt) (xi_r _) ((xs (i + 5).toNat).toInt) (xi_r _)) (l1 := XW cy ux u14 Jx Rx) (l2 := []) (List.append_nil _).symm (w2 := fun u15 : Nat → Nat → Int => XW cy ux u14 Jx Rx ++ MW cy um u15 Jm Rm) (fun _ => List.append_nil _) rfl wm_yX12_feed wn_X12 wl_L_37 wi_yX12_feed we_yX12_feed hd_yX12_feed rfl ⟨Nat.le_of_ble_eq_true rfl, Nat.le_of_ble_eq_true rfl⟩ (Nat.le_of_ble_eq_true rfl) ⟨Nat.le_of_ble_eq_true rfl, Nat.le_of_ble_eq_true rfl⟩ dL_law_414 (fun r15 u15 hr15 h15 => ?_)
  obtain ⟨hS15, hBq15, hFq15⟩ := h15
  have hQ15 : MI u15 u15 := MI.sf hS15
  have hW15 : WP u15 := WP.of hS15 hWm
  have hL15 := w_feed hKk hFq14 hFq15
  have hKq15 : WR Rx u14 u15 := hL15.2
  have hA15 := hL15.1
  refine x_pop C.1 dL_law_417 rfl ?_
  refine x_goto C.1 (tgt := 1495) dL_law_418 (by decide) ?_
  exact kk u14 Jx Rx u15 Jm Rm ⟨hQ14, hJx, hRx, hQ15, hJm, hW15, hKq15⟩
set_option maxHeartbeats 8000000 in
set_option maxRecDepth 100000 in
theorem law_case_5 {p : Program} {e : Env} {s : State} {m : MethodId} {below : List Frame} {meth : Method} {c : Code} (l : Launch) (D : va_G) (cy : Nat → ClassId) {b L : Nat} {xs : Nat → Int32} (aK aV : Nat → Nat) (C : xC2 p s m #[Value.ref b] meth c D (fun q => s.heap.size ≤ q) s.heap 4 code RL (xTY cy)) (hE : zE aK aV (fun q => s.heap.size ≤ q) s s.heap) (hr : meth.sig.returnType = ret) (hX : va_X b L xs s s.heap) (hbl : b < s.heap.size) (hbA : ¬ (fun q : Nat => s.heap.size ≤ q) b) (hL : L ≤ 3072) (ux um : Nat → Nat) (i : Int) (hi : 0 ≤ i ∧ i + 6 ≤ L) (Vx Jx : Nat → Nat → Int) (Rx : Nat → Nat → Nat) (Vm Jm : Nat → Nat → Int) (Rm : Nat → Nat → Nat) (hLI : LI Vx Jx Rx Vm Jm Rm) (kk : ∀ (Vx Jx : Nat → Nat → Int) (Rx : Nat → Nat → Nat) (Vm Jm : Nat → Nat → Int) (Rm : Nat → Nat → Nat), LI Vx Jx Rx Vm Jm Rm → xW p l e room_1 s m #[Value.ref b] below meth c D (fun q => s.heap.size ≤ q) s.heap 4 162 8366 (lw_Z below #[Value.ref b] s) (XW cy ux Vx Jx Rx ++ MW cy um Vm Jm Rm) 1495 [(3, vI i), (2, .ref (um 0)), (1, .ref (ux 0)), (0, .ref b)] []) : xW p l e room_1 s m #[Value.ref b] below meth c D (fun q => s.heap.size ≤ q) s.heap 4 162 8366 (lw_Z below #[Value.ref b] s) (XW cy ux Vx Jx Rx ++ MW cy um Vm Jm Rm) 421 [(3, vI i), (2, .ref (um 0)), (1, .ref (ux 0)), (0, .ref b)] [] := by
  obtain ⟨hVx, hJx, hRx, hVm, hJm, hWm, hKk⟩ := hLI
  refine x_aload_n C.1 dL_law_421 2 rfl ?_
  refine x_aload_n C.1 dL_law_422 3 rfl ?_
  refine x_iload_n C.1 dL_law_423 0 rfl ?_
  refine x_iconst C.1 (n := 1) dL_law_424 ?_
  refine x_iadd C.1 (v := i + 1) (by omega) dL_law_425 ?_
  refine x_sld C (b := b) (i := i + 1) hX hbl hbA (by omega) (by omega) dL_law_426 ?_
  refine x_callViS C hE (As := [vI ((xs (i + 1).toNat).toInt)]) (rest := []) 0 law_x vc_X11 (s_law l D cy aK aV ux Vx Vx Jx Rx hVx hJx hRx ((xs (i + 1).toNat).toInt) (xi_r _)) (l1 := []) (l2 := MW cy um Vm Jm Rm) rfl (w2 := fun u16 : xS => XW cy ux u16.1 u16.2.1 u16.2.2 ++ MW cy um Vm Jm Rm) (fun _ => rfl) rfl wm_yX11_law wn_X11 wl_L_38 wi_yX11_law we_yX11_law hd_yX11_law rfl ⟨Nat.le_of_ble_eq_true rfl, Nat.le_of_ble_eq_true rfl⟩ (Nat.le_of_ble_eq_true rfl) ⟨Nat.le_of_ble_eq_true rfl, Nat.le_of_ble_eq_true rfl⟩ dL_law_427 (fun r16 u16 hr16 h16 => ?_)
  obtain ⟨hS16, hBq16, hFq16⟩ := h16
  obtain ⟨V16, J16, R16⟩ := u16
  obtain ⟨hI16, hJ16, hR16⟩ := hS16
  dsimp only at hI16 hJ16 hR16 ⊢
  have hQ16 : XI V16 V16 := XI.toU hI16
  refine x_pop C.1 dL_law_430 rfl ?_
  refine x_aload_n C.1 dL_law_431 1 rfl ?_
  refine x_aload_n C.1 dL_law_432 3 rfl ?_
  refine x_iload_n C.1 dL_law_433 0 rfl ?_
  refine x_iconst C.1 (n := 1) dL_law_434 ?_
  refine x_iadd C.1 (v := i + 1) (by omega) dL_law_435 ?_
  refine x_sld C (b := b) (i := i + 1) hX hbl hbA (by omega) (by omega) dL_law_436 ?_
  refine x_callVi C (As := [vI ((xs (i + 1).toNat).toInt)]) (rest := []) 129 law_m vc_X12 (m_law l D cy um Vm Vm Jm Rm hVm hJm trivial ((xs (i + 1).toNat).toInt) (xi_r _) hWm) (l1 := XW cy ux V16 J16 R16) (l2 := []) (List.append_nil _).symm (w2 := fun u17 : Nat → Nat → Int => XW cy ux V16 J16 R16 ++ MW cy um u17 Jm Rm) (fun _ => List.append_nil _) rfl wm_yX12_law wn_X12 wl_L_42 wi_yX12_law we_yX12_law hd_yX12_law rfl ⟨Nat.le_of_ble_eq_true rfl, Nat.le_of_ble_eq_true rfl⟩ (Nat.le_of_ble_eq_true rfl) ⟨Nat.le_of_ble_eq_true rfl, Nat.le_of_ble_eq_true rfl⟩ dL_law_437 (fun r17 u17 hr17 h17 => ?_)
  obtain ⟨hS17, he17_0, hBq17, hFq17⟩ := h17
  have hQ17 : MI u17 u17 := hS17
  have hW17 : WP u17 := he17_0
  have hL17 := w_law hKk hFq16 hFq17
  have hKq17 : WR R16 V16 u17 := hL17.2
  have hA17 := hL17.1
  refine x_pop C.1 dL_law_440 rfl ?_
  refine x_goto C.1 (tgt := 1495) dL_law_441 (by decide) ?_
  exact kk V16 J16 R16 u17 Jm Rm ⟨hQ16, hJ16, hR16, hQ17, hJm, hW17, hKq17⟩
set_option maxHeartbeats 8000000 in
set_option maxRecDepth 100000 in
theorem law_case_6 {p : Program} {e : Env} {s : State} {m : MethodId} {below : List Frame} {meth : Method} {c : Code} (l : Launch) (D : va_G) (cy : Nat → ClassId) {b L : Nat} {xs : Nat → Int32} (aK aV : Nat → Nat) (C : xC2 p s m #[Value.ref b] meth c D (fun q => s.heap.size ≤ q) s.heap 4 code RL (xTY cy)) (hE : zE aK aV (fun q => s.heap.size ≤ q) s s.heap) (hr : meth.sig.returnType = ret) (hX : va_X b L xs s s.heap) (hbl : b < s.heap.size) (hbA : ¬ (fun q : Nat => s.heap.size ≤ q) b) (hL : L ≤ 3072) (ux um : Nat → Nat) (i : Int) (hi : 0 ≤ i ∧ i + 6 ≤ L) (Vx Jx : Nat → Nat → Int) (Rx : Nat → Nat → Nat) (Vm Jm : Nat → Nat → Int) (Rm : Nat → Nat → Nat) (hLI : LI Vx Jx Rx Vm Jm Rm) (kk : ∀ (Vx Jx : Nat → Nat → Int) (Rx : Nat → Nat → Nat) (Vm Jm : Nat → Nat → Int) (Rm : Nat → Nat → Nat), LI Vx Jx Rx Vm Jm Rm → xW p l e room_1 s m #[Value.ref b] below meth c D (fun q => s.heap.size ≤ q) s.heap 4 162 8366 (lw_Z below #[Value.ref b] s) (XW cy ux Vx Jx Rx ++ MW cy um Vm Jm Rm) 1495 [(3, vI i), (2, .ref (um 0)), (1, .ref (ux 0)), (0, .ref b)] []) : xW p l e room_1 s m #[Value.ref b] below meth c D (fun q => s.heap.size ≤ q) s.heap 4 162 8366 (lw_Z below #[Value.ref b] s) (XW cy ux Vx Jx Rx ++ MW cy um Vm Jm Rm) 444 [(3, vI i), (2, .ref (um 0)), (1, .ref (ux 0)), (0, .ref b)] [] := by
  obtain ⟨hVx, hJx, hRx, hVm, hJm, hWm, hKk⟩ := hLI
  refine x_aload_n C.1 dL_law_444 2 rfl ?_
  refine x_aload_n C.1 dL_law_445 3 rfl ?_
  refine x_iload_n C.1 dL_law_446 0 rfl ?_
  refine x_iconst C.1 (n := 1) dL_law_447 ?_
  refine x_iadd C.1 (v := i + 1) (by omega) dL_law_448 ?_
  refine x_sld C (b := b) (i := i + 1) hX hbl hbA (by omega) (by omega) dL_law_449 ?_
  refine x_aload_n C.1 dL_law_450 3 rfl ?_
  refine x_iload_n C.1 dL_law_451 0 rfl ?_
  refine x_iconst C.1 (n := 2) dL_law_452 ?_
  refine x_iadd C.1 (v := i + 2) (by omega) dL_law_453 ?_
  refine x_sld C (b := b) (i := i + 2) hX hbl hbA (by omega) (by omega) dL_law_454 ?_
  refine x_callViS C hE (As := [vI ((xs (i + 1).toNat).toInt), vI ((xs (i + 2).toNat).toInt)]) (rest := []) 0 law_x vc_X11 (s_rule l D cy aK aV ux Vx Vx Jx Rx hVx hJx hRx ((xs (i + 1).toNat).toInt) (xi_r _) ((xs (i + 2).toNat).toInt) (xi_r _)) (l1 := []) (l2 := MW cy um Vm Jm Rm) rfl (w2 := fun u18 : xS => XW cy ux u18.1 u18.2.1 u18.2.2 ++ MW cy um Vm Jm Rm) (fun _ => rfl) rfl wm_yX11_rule wn_X11 wl_L_43 wi_yX11_rule we_yX11_rule hd_yX11_rule rfl ⟨Nat.le_of_ble_eq_true rfl, Nat.le_of_ble_eq_true rfl⟩ (Nat.le_of_ble_eq_true rfl) ⟨Nat.le_of_ble_eq_true rfl, Nat.le_of_ble_eq_true rfl⟩ dL_law_455 (fun r18 u18 hr18 h18 => ?_)
  obtain ⟨hS18, hBq18, hFq18⟩ := h18
  obtain ⟨V18, J18, R18⟩ := u18
  obtain ⟨hI18, hJ18, hR18⟩ := hS18
  dsimp only at hI18 hJ18 hR18 ⊢
  have hQ18 : XI V18 V18 := XI.toU hI18
  refine x_pop C.1 dL_law_458 rfl ?_
  refine x_aload_n C.1 dL_law_459 1 rfl ?_
  refine x_aload_n C.1 dL_law_460 3 rfl ?_
  refine x_iload_n C.1 dL_law_461 0 rfl ?_
  refine x_iconst C.1 (n := 1) dL_law_462 ?_
  refine x_iadd C.1 (v := i + 1) (by omega) dL_law_463 ?_
  refine x_sld C (b := b) (i := i + 1) hX hbl hbA (by omega) (by omega) dL_law_464 ?_
  refine x_aload_n C.1 dL_law_465 3 rfl ?_
  refine x_iload_n C.1 dL_law_466 0 rfl ?_
  refine x_iconst C.1 (n := 2) dL_law_467 ?_
  refine x_iadd C.1 (v := i + 2) (by omega) dL_law_468 ?_
  refine x_sld C (b := b) (i := i + 2) hX hbl hbA (by omega) (by omega) dL_law_469 ?_
  refine x_callVi C (As := [vI ((xs (i + 1).toNat).toInt), vI ((xs (i + 2).toNat).toInt)]) (rest := []) 129 law_m vc_X12 (m_rule l D cy um Vm Vm Jm Rm hVm hJm trivial ((xs (i + 1).toNat).toInt) (xi_r _) ((xs (i + 2).toNat).toInt) (xi_r _) hWm) (l1 := XW cy ux V18 J18 R18) (l2 := []) (List.append_nil _).symm (w2 := fun u19 : Nat → Nat → Int => XW cy ux V18 J18 R18 ++ MW cy um u19 Jm Rm) (fun _ => List.append_nil _) rfl wm_yX12_rule wn_X12 wl_L_46 wi_yX12_rule we_yX12_rule hd_yX12_rule rfl ⟨Nat.le_of_ble_eq_true rfl, Nat.le_of_ble_eq_true rfl⟩ (Nat.le_of_ble_eq_true rfl) ⟨Nat.le_of_ble_eq_true rfl, Nat.le_of_ble_eq_true rfl⟩ dL_law_470 (fun r19 u19 hr19 h19 => ?_)
  obtain ⟨hS19, he19_0, hBq19, hFq19⟩ := h19
  have hQ19 : MI u19 u19 := hS19
  have hW19 : WP u19 := he19_0
  have hL19 := w_rule hKk hFq18 hFq19
  have hKq19 : WR R18 V18 u19 := hL19.2
  have hA19 := hL19.1
  refine x_pop C.1 dL_law_473 rfl ?_
  refine x_goto C.1 (tgt := 1495) dL_law_474 (by decide) ?_
  exact kk V18 J18 R18 u19 Jm Rm ⟨hQ18, hJ18, hR18, hQ19, hJm, hW19, hKq19⟩
set_option maxHeartbeats 8000000 in
set_option maxRecDepth 100000 in
theorem law_case_7 {p : Program} {e : Env} {s : State} {m : MethodId} {below : List Frame} {meth : Method} {c : Code} (l : Launch) (D : va_G) (cy : Nat → ClassId) {b L : Nat} {xs : Nat → Int32} (aK aV : Nat → Nat) (C : xC2 p s m #[Value.ref b] meth c D (fun q => s.heap.size ≤ q) s.heap 4 code RL (xTY cy)) (hE : zE aK aV (fun q => s.heap.size ≤ q) s s.heap) (hr : meth.sig.returnType = ret) (hX : va_X b L xs s s.heap) (hbl : b < s.heap.size) (hbA : ¬ (fun q : Nat => s.heap.size ≤ q) b) (hL : L ≤ 3072) (ux um : Nat → Nat) (i : Int) (hi : 0 ≤ i ∧ i + 6 ≤ L) (Vx Jx : Nat → Nat → Int) (Rx : Nat → Nat → Nat) (Vm Jm : Nat → Nat → Int) (Rm : Nat → Nat → Nat) (hLI : LI Vx Jx Rx Vm Jm Rm) (kk : ∀ (Vx Jx : Nat → Nat → Int) (Rx : Nat → Nat → Nat) (Vm Jm : Nat → Nat → Int) (Rm : Nat → Nat → Nat), LI Vx Jx Rx Vm Jm Rm → xW p l e room_1 s m #[Value.ref b] below meth c D (fun q => s.heap.size ≤ q) s.heap 4 162 8366 (lw_Z below #[Value.ref b] s) (XW cy ux Vx Jx Rx ++ MW cy um Vm Jm Rm) 1495 [(3, vI i), (2, .ref (um 0)), (1, .ref (ux 0)), (0, .ref b)] []) : xW p l e room_1 s m #[Value.ref b] below meth c D (fun q => s.heap.size ≤ q) s.heap 4 162 8366 (lw_Z below #[Value.ref b] s) (XW cy ux Vx Jx Rx ++ MW cy um Vm Jm Rm) 477 [(3, vI i), (2, .ref (um 0)), (1, .ref (ux 0)), (0, .ref b)] [] := by
  obtain ⟨hVx, hJx, hRx, hVm, hJm, hWm, hKk⟩ := hLI
  refine x_aload_n C.1 dL_law_477 2 rfl ?_
  refine x_aload_n C.1 dL_law_478 3 rfl ?_
  refine x_iload_n C.1 dL_law_479 0 rfl ?_
  refine x_iconst C.1 (n := 1) dL_law_480 ?_
  refine x_iadd C.1 (v := i + 1) (by omega) dL_law_481 ?_
  refine x_sld C (b := b) (i := i + 1) hX hbl hbA (by omega) (by omega) dL_law_482 ?_
  refine x_callVi C (As := [vI ((xs (i + 1).toNat).toInt)]) (rest := []) 0 law_x vc_X11 (s_days l D cy ux Vx Vx Jx Rx hVx hJx hRx ((xs (i + 1).toNat).toInt) (xi_r _)) (l1 := []) (l2 := MW cy um Vm Jm Rm) rfl (w2 := fun u20 : Nat → Nat → Int => XW cy ux u20 Jx Rx ++ MW cy um Vm Jm Rm) (fun _ => rfl) rfl wm_yX11_days wn_X11 wl_L_47 wi_yX11_days we_yX11_days hd_yX11_days rfl ⟨Nat.le_of_ble_eq_true rfl, Nat.le_of_ble_eq_true rfl⟩ (Nat.le_of_ble_eq_true rfl) ⟨Nat.le_of_ble_eq_true rfl, Nat.le_of_ble_eq_true rfl⟩ dL_law_483 (fun r20 u20 hr20 h20 => ?_)
  obtain ⟨hS20, hBq20, hFq20⟩ := h20
  have hQ20 : XI u20 u20 := XI.toU hS20
  refine x_pop C.1 dL_law_486 rfl ?_
  refine x_aload_n C.1 dL_law_487 1 rfl ?_
  refine x_aload_n C.1 dL_law_488 3 rfl ?_
  refine x_iload_n C.1 dL_law_489 0 rfl ?_
  refine x_iconst C.1 (n := 1) dL_law_490 ?_
  refine x_iadd C.1 (v := i + 1) (by omega) dL_law_491 ?_
  refine x_sld C (b := b) (i := i + 1) hX hbl hbA (by omega) (by omega) dL_law_492 ?_
  refine x_callVi C (As := [vI ((xs (i + 1).toNat).toInt)]) (rest := []) 129 law_m vc_X12 (m_days l D cy um Vm Vm Jm Rm hVm hJm trivial ((xs (i + 1).toNat).toInt) (xi_r _) hWm) (l1 := XW cy ux u20 Jx Rx) (l2 := []) (List.append_nil _).symm (w2 := fun u21 : Nat → Nat → Int => XW cy ux u20 Jx Rx ++ MW cy um u21 Jm Rm) (fun _ => List.append_nil _) rfl wm_yX12_days wn_X12 wl_L_50 wi_yX12_days we_yX12_days hd_yX12_days rfl ⟨Nat.le_of_ble_eq_true rfl, Nat.le_of_ble_eq_true rfl⟩ (Nat.le_of_ble_eq_true rfl) ⟨Nat.le_of_ble_eq_true rfl, Nat.le_of_ble_eq_true rfl⟩ dL_law_493 (fun r21 u21 hr21 h21 => ?_)
  obtain ⟨hS21, hBq21, hFq21⟩ := h21
  have hQ21 : MI u21 u21 := MI.sf hS21
  have hW21 : WP u21 := WP.of hS21 hWm
  have hL21 := w_days hKk hFq20 hFq21
  have hKq21 : WR Rx u20 u21 := hL21.2
  have hA21 := hL21.1
  refine x_pop C.1 dL_law_496 rfl ?_
  refine x_goto C.1 (tgt := 1495) dL_law_497 (by decide) ?_
  exact kk u20 Jx Rx u21 Jm Rm ⟨hQ20, hJx, hRx, hQ21, hJm, hW21, hKq21⟩
set_option maxHeartbeats 8000000 in
set_option maxRecDepth 100000 in
theorem law_case_8 {p : Program} {e : Env} {s : State} {m : MethodId} {below : List Frame} {meth : Method} {c : Code} (l : Launch) (D : va_G) (cy : Nat → ClassId) {b L : Nat} {xs : Nat → Int32} (aK aV : Nat → Nat) (C : xC2 p s m #[Value.ref b] meth c D (fun q => s.heap.size ≤ q) s.heap 4 code RL (xTY cy)) (hE : zE aK aV (fun q => s.heap.size ≤ q) s s.heap) (hr : meth.sig.returnType = ret) (hX : va_X b L xs s s.heap) (hbl : b < s.heap.size) (hbA : ¬ (fun q : Nat => s.heap.size ≤ q) b) (hL : L ≤ 3072) (ux um : Nat → Nat) (i : Int) (hi : 0 ≤ i ∧ i + 6 ≤ L) (Vx Jx : Nat → Nat → Int) (Rx : Nat → Nat → Nat) (Vm Jm : Nat → Nat → Int) (Rm : Nat → Nat → Nat) (hLI : LI Vx Jx Rx Vm Jm Rm) (kk : ∀ (Vx Jx : Nat → Nat → Int) (Rx : Nat → Nat → Nat) (Vm Jm : Nat → Nat → Int) (Rm : Nat → Nat → Nat), LI Vx Jx Rx Vm Jm Rm → xW p l e room_1 s m #[Value.ref b] below meth c D (fun q => s.heap.size ≤ q) s.heap 4 162 8366 (lw_Z below #[Value.ref b] s) (XW cy ux Vx Jx Rx ++ MW cy um Vm Jm Rm) 1495 [(3, vI i), (2, .ref (um 0)), (1, .ref (ux 0)), (0, .ref b)] []) : xW p l e room_1 s m #[Value.ref b] below meth c D (fun q => s.heap.size ≤ q) s.heap 4 162 8366 (lw_Z below #[Value.ref b] s) (XW cy ux Vx Jx Rx ++ MW cy um Vm Jm Rm) 500 [(3, vI i), (2, .ref (um 0)), (1, .ref (ux 0)), (0, .ref b)] [] := by
  obtain ⟨hVx, hJx, hRx, hVm, hJm, hWm, hKk⟩ := hLI
  refine x_aload_n C.1 dL_law_500 2 rfl ?_
  refine x_aload_n C.1 dL_law_501 3 rfl ?_
  refine x_iload_n C.1 dL_law_502 0 rfl ?_
  refine x_iconst C.1 (n := 1) dL_law_503 ?_
  refine x_iadd C.1 (v := i + 1) (by omega) dL_law_504 ?_
  refine x_sld C (b := b) (i := i + 1) hX hbl hbA (by omega) (by omega) dL_law_505 ?_
  refine x_aload_n C.1 dL_law_506 3 rfl ?_
  refine x_iload_n C.1 dL_law_507 0 rfl ?_
  refine x_iconst C.1 (n := 2) dL_law_508 ?_
  refine x_iadd C.1 (v := i + 2) (by omega) dL_law_509 ?_
  refine x_sld C (b := b) (i := i + 2) hX hbl hbA (by omega) (by omega) dL_law_510 ?_
  refine x_callVi C (As := [vI ((xs (i + 1).toNat).toInt), vI ((xs (i + 2).toNat).toInt)]) (rest := []) 0 law_x vc_X11 (s_tried l D cy ux Vx Vx Jx Rx hVx hJx hRx ((xs (i + 1).toNat).toInt) (xi_r _) ((xs (i + 2).toNat).toInt) (xi_r _)) (l1 := []) (l2 := MW cy um Vm Jm Rm) rfl (w2 := fun u22 : Nat → Nat → Int => XW cy ux u22 Jx Rx ++ MW cy um Vm Jm Rm) (fun _ => rfl) rfl wm_yX11_tried wn_X11 wl_L_51 wi_yX11_tried we_yX11_tried hd_yX11_tried rfl ⟨Nat.le_of_ble_eq_true rfl, Nat.le_of_ble_eq_true rfl⟩ (Nat.le_of_ble_eq_true rfl) ⟨Nat.le_of_ble_eq_true rfl, Nat.le_of_ble_eq_true rfl⟩ dL_law_511 (fun r22 u22 hr22 h22 => ?_)
  obtain ⟨hS22, hBq22, hFq22⟩ := h22
  have hQ22 : XI u22 u22 := XI.toU hS22
  refine x_pop C.1 dL_law_514 rfl ?_
  refine x_aload_n C.1 dL_law_515 1 rfl ?_
  refine x_aload_n C.1 dL_law_516 3 rfl ?_
  refine x_iload_n C.1 dL_law_517 0 rfl ?_
  refine x_iconst C.1 (n := 1) dL_law_518 ?_
  refine x_iadd C.1 (v := i + 1) (by omega) dL_law_519 ?_
  refine x_sld C (b := b) (i := i + 1) hX hbl hbA (by omega) (by omega) dL_law_520 ?_
  refine x_aload_n C.1 dL_law_521 3 rfl ?_
  refine x_iload_n C.1 dL_law_522 0 rfl ?_
  refine x_iconst C.1 (n := 2) dL_law_523 ?_
  refine x_iadd C.1 (v := i + 2) (by omega) dL_law_524 ?_
  refine x_sld C (b := b) (i := i + 2) hX hbl hbA (by omega) (by omega) dL_law_525 ?_
  refine x_callVi C (As := [vI ((xs (i + 1).toNat).toInt), vI ((xs (i + 2).toNat).toInt)]) (rest := []) 129 law_m vc_X12 (m_tried l D cy um Vm Vm Jm Rm hVm hJm trivial ((xs (i + 1).toNat).toInt) (xi_r _) ((xs (i + 2).toNat).toInt) (xi_r _) hWm) (l1 := XW cy ux u22 Jx Rx) (l2 := []) (List.append_nil _).symm (w2 := fun u23 : Nat → Nat → Int => XW cy ux u22 Jx Rx ++ MW cy um u23 Jm Rm) (fun _ => List.append_nil _) rfl wm_yX12_tried wn_X12 wl_L_54 wi_yX12_tried we_yX12_tried hd_yX12_tried rfl ⟨Nat.le_of_ble_eq_true rfl, Nat.le_of_ble_eq_true rfl⟩ (Nat.le_of_ble_eq_true rfl) ⟨Nat.le_of_ble_eq_true rfl, Nat.le_of_ble_eq_true rfl⟩ dL_law_526 (fun r23 u23 hr23 h23 => ?_)
  obtain ⟨hS23, hBq23, hFq23⟩ := h23
  have hQ23 : MI u23 u23 := MI.sf hS23
  have hW23 : WP u23 := WP.of hS23 hWm
  have hKq23 : WR Rx u22 u23 := (hKk.keepT (hKk.tp (hBq22 58 1 (by omega)) (funext fun k => hBq22 59 k (by omega)) (hBq23.fl 4 (by decide)) (hBq23.rw 4 (by decide) (by decide))) (fun i hi => funext fun k => hBq22 i k (by omega)) (hBq22 0 3 (by omega)) (k_tried hFq23) (hBq23.rw 3 (by decide) (by decide)) (hBq23.kt (by decide)) (hBq23.fl 53 (by decide)))
  refine x_pop C.1 dL_law_529 rfl ?_
  refine x_goto C.1 (tgt := 1495) dL_law_530 (by decide) ?_
  exact kk u22 Jx Rx u23 Jm Rm ⟨hQ22, hJx, hRx, hQ23, hJm, hW23, hKq23⟩
set_option maxHeartbeats 8000000 in
set_option maxRecDepth 100000 in
theorem law_case_9 {p : Program} {e : Env} {s : State} {m : MethodId} {below : List Frame} {meth : Method} {c : Code} (l : Launch) (D : va_G) (cy : Nat → ClassId) {b L : Nat} {xs : Nat → Int32} (aK aV : Nat → Nat) (C : xC2 p s m #[Value.ref b] meth c D (fun q => s.heap.size ≤ q) s.heap 4 code RL (xTY cy)) (hE : zE aK aV (fun q => s.heap.size ≤ q) s s.heap) (hr : meth.sig.returnType = ret) (hX : va_X b L xs s s.heap) (hbl : b < s.heap.size) (hbA : ¬ (fun q : Nat => s.heap.size ≤ q) b) (hL : L ≤ 3072) (ux um : Nat → Nat) (i : Int) (hi : 0 ≤ i ∧ i + 6 ≤ L) (Vx Jx : Nat → Nat → Int) (Rx : Nat → Nat → Nat) (Vm Jm : Nat → Nat → Int) (Rm : Nat → Nat → Nat) (hLI : LI Vx Jx Rx Vm Jm Rm) (kk : ∀ (Vx Jx : Nat → Nat → Int) (Rx : Nat → Nat → Nat) (Vm Jm : Nat → Nat → Int) (Rm : Nat → Nat → Nat), LI Vx Jx Rx Vm Jm Rm → xW p l e room_1 s m #[Value.ref b] below meth c D (fun q => s.heap.size ≤ q) s.heap 4 162 8366 (lw_Z below #[Value.ref b] s) (XW cy ux Vx Jx Rx ++ MW cy um Vm Jm Rm) 1495 [(3, vI i), (2, .ref (um 0)), (1, .ref (ux 0)), (0, .ref b)] []) : xW p l e room_1 s m #[Value.ref b] below meth c D (fun q => s.heap.size ≤ q) s.heap 4 162 8366 (lw_Z below #[Value.ref b] s) (XW cy ux Vx Jx Rx ++ MW cy um Vm Jm Rm) 533 [(3, vI i), (2, .ref (um 0)), (1, .ref (ux 0)), (0, .ref b)] [] := by
  obtain ⟨hVx, hJx, hRx, hVm, hJm, hWm, hKk⟩ := hLI
  refine x_aload_n C.1 dL_law_533 2 rfl ?_
  refine x_aload_n C.1 dL_law_534 3 rfl ?_
  refine x_iload_n C.1 dL_law_535 0 rfl ?_
  refine x_iconst C.1 (n := 1) dL_law_536 ?_
  refine x_iadd C.1 (v := i + 1) (by omega) dL_law_537 ?_
  refine x_sld C (b := b) (i := i + 1) hX hbl hbA (by omega) (by omega) dL_law_538 ?_
  refine x_aload_n C.1 dL_law_539 3 rfl ?_
  refine x_iload_n C.1 dL_law_540 0 rfl ?_
  refine x_iconst C.1 (n := 2) dL_law_541 ?_
  refine x_iadd C.1 (v := i + 2) (by omega) dL_law_542 ?_
  refine x_sld C (b := b) (i := i + 2) hX hbl hbA (by omega) (by omega) dL_law_543 ?_
  refine x_callVi C (As := [vI ((xs (i + 1).toNat).toInt), vI ((xs (i + 2).toNat).toInt)]) (rest := []) 0 law_x vc_X11 (s_plantIs l D cy ux Vx Vx Jx Rx hVx hJx hRx ((xs (i + 1).toNat).toInt) (xi_r _) ((xs (i + 2).toNat).toInt) (xi_r _)) (l1 := []) (l2 := MW cy um Vm Jm Rm) rfl (w2 := fun u24 : Unit => XW cy ux Vx Jx Rx ++ MW cy um Vm Jm Rm) (fun _ => rfl) rfl wm_yX11_plantIs wn_X11 wl_L_55 wi_yX11_plantIs we_yX11_plantIs hd_yX11_plantIs rfl ⟨Nat.le_of_ble_eq_true rfl, Nat.le_of_ble_eq_true rfl⟩ (Nat.le_of_ble_eq_true rfl) ⟨Nat.le_of_ble_eq_true rfl, Nat.le_of_ble_eq_true rfl⟩ dL_law_544 (fun r24 u24 hr24 h24 => ?_)
  have hFq24 := h24
  refine x_pop C.1 dL_law_547 rfl ?_
  refine x_aload_n C.1 dL_law_548 1 rfl ?_
  refine x_aload_n C.1 dL_law_549 3 rfl ?_
  refine x_iload_n C.1 dL_law_550 0 rfl ?_
  refine x_iconst C.1 (n := 1) dL_law_551 ?_
  refine x_iadd C.1 (v := i + 1) (by omega) dL_law_552 ?_
  refine x_sld C (b := b) (i := i + 1) hX hbl hbA (by omega) (by omega) dL_law_553 ?_
  refine x_aload_n C.1 dL_law_554 3 rfl ?_
  refine x_iload_n C.1 dL_law_555 0 rfl ?_
  refine x_iconst C.1 (n := 2) dL_law_556 ?_
  refine x_iadd C.1 (v := i + 2) (by omega) dL_law_557 ?_
  refine x_sld C (b := b) (i := i + 2) hX hbl hbA (by omega) (by omega) dL_law_558 ?_
  refine x_callVi C (As := [vI ((xs (i + 1).toNat).toInt), vI ((xs (i + 2).toNat).toInt)]) (rest := []) 129 law_m vc_X12 (m_plantIs l D cy um Vm Vm Jm Rm hVm hJm trivial ((xs (i + 1).toNat).toInt) (xi_r _) ((xs (i + 2).toNat).toInt) (xi_r _)) (l1 := XW cy ux Vx Jx Rx) (l2 := []) (List.append_nil _).symm (w2 := fun u25 : Unit => XW cy ux Vx Jx Rx ++ MW cy um Vm Jm Rm) (fun _ => List.append_nil _) rfl wm_yX12_plantIs wn_X12 wl_L_58 wi_yX12_plantIs we_yX12_plantIs hd_yX12_plantIs rfl ⟨Nat.le_of_ble_eq_true rfl, Nat.le_of_ble_eq_true rfl⟩ (Nat.le_of_ble_eq_true rfl) ⟨Nat.le_of_ble_eq_true rfl, Nat.le_of_ble_eq_true rfl⟩ dL_law_559 (fun r25 u25 hr25 h25 => ?_)
  have hFq25 := h25
  refine x_pop C.1 dL_law_562 rfl ?_
  refine x_goto C.1 (tgt := 1495) dL_law_563 (by decide) ?_
  exact kk Vx Jx Rx Vm Jm Rm ⟨hVx, hJx, hRx, hVm, hJm, hWm, hKk⟩
set_option maxHeartbeats 8000000 in
set_option maxRecDepth 100000 in
theorem law_case_10 {p : Program} {e : Env} {s : State} {m : MethodId} {below : List Frame} {meth : Method} {c : Code} (l : Launch) (D : va_G) (cy : Nat → ClassId) {b L : Nat} {xs : Nat → Int32} (aK aV : Nat → Nat) (C : xC2 p s m #[Value.ref b] meth c D (fun q => s.heap.size ≤ q) s.heap 4 code RL (xTY cy)) (hE : zE aK aV (fun q => s.heap.size ≤ q) s s.heap) (hr : meth.sig.returnType = ret) (hX : va_X b L xs s s.heap) (hbl : b < s.heap.size) (hbA : ¬ (fun q : Nat => s.heap.size ≤ q) b) (hL : L ≤ 3072) (ux um : Nat → Nat) (i : Int) (hi : 0 ≤ i ∧ i + 6 ≤ L) (Vx Jx : Nat → Nat → Int) (Rx : Nat → Nat → Nat) (Vm Jm : Nat → Nat → Int) (Rm : Nat → Nat → Nat) (hLI : LI Vx Jx Rx Vm Jm Rm) (kk : ∀ (Vx Jx : Nat → Nat → Int) (Rx : Nat → Nat → Nat) (Vm Jm : Nat → Nat → Int) (Rm : Nat → Nat → Nat), LI Vx Jx Rx Vm Jm Rm → xW p l e room_1 s m #[Value.ref b] below meth c D (fun q => s.heap.size ≤ q) s.heap 4 162 8366 (lw_Z below #[Value.ref b] s) (XW cy ux Vx Jx Rx ++ MW cy um Vm Jm Rm) 1495 [(3, vI i), (2, .ref (um 0)), (1, .ref (ux 0)), (0, .ref b)] []) : xW p l e room_1 s m #[Value.ref b] below meth c D (fun q => s.heap.size ≤ q) s.heap 4 162 8366 (lw_Z below #[Value.ref b] s) (XW cy ux Vx Jx Rx ++ MW cy um Vm Jm Rm) 566 [(3, vI i), (2, .ref (um 0)), (1, .ref (ux 0)), (0, .ref b)] [] := by
  obtain ⟨hVx, hJx, hRx, hVm, hJm, hWm, hKk⟩ := hLI
  refine x_aload_n C.1 dL_law_566 2 rfl ?_
  refine x_aload_n C.1 dL_law_567 3 rfl ?_
  refine x_iload_n C.1 dL_law_568 0 rfl ?_
  refine x_iconst C.1 (n := 1) dL_law_569 ?_
  refine x_iadd C.1 (v := i + 1) (by omega) dL_law_570 ?_
  refine x_sld C (b := b) (i := i + 1) hX hbl hbA (by omega) (by omega) dL_law_571 ?_
  refine x_aload_n C.1 dL_law_572 3 rfl ?_
  refine x_iload_n C.1 dL_law_573 0 rfl ?_
  refine x_iconst C.1 (n := 2) dL_law_574 ?_
  refine x_iadd C.1 (v := i + 2) (by omega) dL_law_575 ?_
  refine x_sld C (b := b) (i := i + 2) hX hbl hbA (by omega) (by omega) dL_law_576 ?_
  refine x_callVi C (As := [vI ((xs (i + 1).toNat).toInt), vI ((xs (i + 2).toNat).toInt)]) (rest := []) 0 law_x vc_X11 (s_gives l D cy ux Vx Vx Jx Rx hVx hJx hRx ((xs (i + 1).toNat).toInt) (xi_r _) ((xs (i + 2).toNat).toInt) (xi_r _)) (l1 := []) (l2 := MW cy um Vm Jm Rm) rfl (w2 := fun u26 : Nat → Nat → Int => XW cy ux u26 Jx Rx ++ MW cy um Vm Jm Rm) (fun _ => rfl) rfl wm_yX11_gives wn_X11 wl_L_59 wi_yX11_gives we_yX11_gives hd_yX11_gives rfl ⟨Nat.le_of_ble_eq_true rfl, Nat.le_of_ble_eq_true rfl⟩ (Nat.le_of_ble_eq_true rfl) ⟨Nat.le_of_ble_eq_true rfl, Nat.le_of_ble_eq_true rfl⟩ dL_law_577 (fun r26 u26 hr26 h26 => ?_)
  obtain ⟨hS26, hBq26, hFq26⟩ := h26
  have hQ26 : XI u26 u26 := XI.toU hS26
  refine x_aload_n C.1 dL_law_580 1 rfl ?_
  refine x_aload_n C.1 dL_law_581 3 rfl ?_
  refine x_iload_n C.1 dL_law_582 0 rfl ?_
  refine x_iconst C.1 (n := 1) dL_law_583 ?_
  refine x_iadd C.1 (v := i + 1) (by omega) dL_law_584 ?_
  refine x_sld C (b := b) (i := i + 1) hX hbl hbA (by omega) (by omega) dL_law_585 ?_
  refine x_aload_n C.1 dL_law_586 3 rfl ?_
  refine x_iload_n C.1 dL_law_587 0 rfl ?_
  refine x_iconst C.1 (n := 2) dL_law_588 ?_
  refine x_iadd C.1 (v := i + 2) (by omega) dL_law_589 ?_
  refine x_sld C (b := b) (i := i + 2) hX hbl hbA (by omega) (by omega) dL_law_590 ?_
  refine x_callVi C (As := [vI ((xs (i + 1).toNat).toInt), vI ((xs (i + 2).toNat).toInt)]) (rest := [vI r26]) 129 law_m vc_X12 (m_gives l D cy um Vm Vm Jm Rm hVm hJm trivial ((xs (i + 1).toNat).toInt) (xi_r _) ((xs (i + 2).toNat).toInt) (xi_r _) hWm) (l1 := XW cy ux u26 Jx Rx) (l2 := []) (List.append_nil _).symm (w2 := fun u27 : Nat → Nat → Int => XW cy ux u26 Jx Rx ++ MW cy um u27 Jm Rm) (fun _ => List.append_nil _) rfl wm_yX12_gives wn_X12 wl_L_62 wi_yX12_gives we_yX12_gives hd_yX12_gives rfl ⟨Nat.le_of_ble_eq_true rfl, Nat.le_of_ble_eq_true rfl⟩ (Nat.le_of_ble_eq_true rfl) ⟨Nat.le_of_ble_eq_true rfl, Nat.le_of_ble_eq_true rfl⟩ dL_law_591 (fun r27 u27 hr27 h27 => ?_)
  obtain ⟨hS27, hBq27, hFq27⟩ := h27
  have hQ27 : MI u27 u27 := MI.sf hS27
  have hW27 : WP u27 := WP.of hS27 hWm
  have hA27 := e_gives hKk hFq26 hFq27
  have hKq27 : WR Rx u26 u27 := (hKk.keepT (hKk.tp (hBq26 58 1 (by omega)) (funext fun k => hBq26 59 k (by omega)) (hBq27.fl 4 (by decide)) (hBq27.rw 4 (by decide) (by decide))) (fun i hi => funext fun k => hBq26 i k (by omega)) (hBq26 0 3 (by omega)) (fun k _ => congrFun (hBq27.rw 1 (by decide) (by decide)) k) (hBq27.rw 3 (by decide) (by decide)) (hBq27.kt (by decide)) (hBq27.fl 53 (by decide)))
  refine x_icmp_eq_t C.1 (tgt := 1495) dL_law_594 (by decide) hr26 hr27 (by omega) ?_
  exact kk u26 Jx Rx u27 Jm Rm ⟨hQ26, hJx, hRx, hQ27, hJm, hW27, hKq27⟩
set_option maxHeartbeats 8000000 in
set_option maxRecDepth 100000 in
theorem law_case_11 {p : Program} {e : Env} {s : State} {m : MethodId} {below : List Frame} {meth : Method} {c : Code} (l : Launch) (D : va_G) (cy : Nat → ClassId) {b L : Nat} {xs : Nat → Int32} (aK aV : Nat → Nat) (C : xC2 p s m #[Value.ref b] meth c D (fun q => s.heap.size ≤ q) s.heap 4 code RL (xTY cy)) (hE : zE aK aV (fun q => s.heap.size ≤ q) s s.heap) (hr : meth.sig.returnType = ret) (hX : va_X b L xs s s.heap) (hbl : b < s.heap.size) (hbA : ¬ (fun q : Nat => s.heap.size ≤ q) b) (hL : L ≤ 3072) (ux um : Nat → Nat) (i : Int) (hi : 0 ≤ i ∧ i + 6 ≤ L) (Vx Jx : Nat → Nat → Int) (Rx : Nat → Nat → Nat) (Vm Jm : Nat → Nat → Int) (Rm : Nat → Nat → Nat) (hLI : LI Vx Jx Rx Vm Jm Rm) (kk : ∀ (Vx Jx : Nat → Nat → Int) (Rx : Nat → Nat → Nat) (Vm Jm : Nat → Nat → Int) (Rm : Nat → Nat → Nat), LI Vx Jx Rx Vm Jm Rm → xW p l e room_1 s m #[Value.ref b] below meth c D (fun q => s.heap.size ≤ q) s.heap 4 162 8366 (lw_Z below #[Value.ref b] s) (XW cy ux Vx Jx Rx ++ MW cy um Vm Jm Rm) 1495 [(3, vI i), (2, .ref (um 0)), (1, .ref (ux 0)), (0, .ref b)] []) : xW p l e room_1 s m #[Value.ref b] below meth c D (fun q => s.heap.size ≤ q) s.heap 4 162 8366 (lw_Z below #[Value.ref b] s) (XW cy ux Vx Jx Rx ++ MW cy um Vm Jm Rm) 599 [(3, vI i), (2, .ref (um 0)), (1, .ref (ux 0)), (0, .ref b)] [] := by
  obtain ⟨hVx, hJx, hRx, hVm, hJm, hWm, hKk⟩ := hLI
  refine x_aload_n C.1 dL_law_599 2 rfl ?_
  refine x_aload_n C.1 dL_law_600 3 rfl ?_
  refine x_iload_n C.1 dL_law_601 0 rfl ?_
  refine x_iconst C.1 (n := 1) dL_law_602 ?_
  refine x_iadd C.1 (v := i + 1) (by omega) dL_law_603 ?_
  refine x_sld C (b := b) (i := i + 1) hX hbl hbA (by omega) (by omega) dL_law_604 ?_
  refine x_aload_n C.1 dL_law_605 3 rfl ?_
  refine x_iload_n C.1 dL_law_606 0 rfl ?_
  refine x_iconst C.1 (n := 2) dL_law_607 ?_
  refine x_iadd C.1 (v := i + 2) (by omega) dL_law_608 ?_
  refine x_sld C (b := b) (i := i + 2) hX hbl hbA (by omega) (by omega) dL_law_609 ?_
  refine x_aload_n C.1 dL_law_610 3 rfl ?_
  refine x_iload_n C.1 dL_law_611 0 rfl ?_
  refine x_iconst C.1 (n := 3) dL_law_612 ?_
  refine x_iadd C.1 (v := i + 3) (by omega) dL_law_613 ?_
  refine x_sld C (b := b) (i := i + 3) hX hbl hbA (by omega) (by omega) dL_law_614 ?_
  refine x_aload_n C.1 dL_law_615 3 rfl ?_
  refine x_iload_n C.1 dL_law_616 0 rfl ?_
  refine x_iconst C.1 (n := 4) dL_law_617 ?_
  refine x_iadd C.1 (v := i + 4) (by omega) dL_law_618 ?_
  refine x_sld C (b := b) (i := i + 4) hX hbl hbA (by omega) (by omega) dL_law_619 ?_
  refine x_callVl C (As := [vI ((xs (i + 1).toNat).toInt), vI ((xs (i + 2).toNat).toInt), vI ((xs (i + 3).toNat).toInt), vI ((xs (i + 4).toNat).toInt)]) (rest := []) 0 law_x vc_X11 (s_exactly l D cy ux Vx Vx Jx Rx hVx hJx hRx ((xs (i + 1).toNat).toInt) (xi_r _) ((xs (i + 2).toNat).toInt) (xi_r _) ((xs (i + 3).toNat).toInt) (xi_r _) ((xs (i + 4).toNat).toInt) (xi_r _)) (l1 := []) (l2 := MW cy um Vm Jm Rm) rfl (w2 := fun u28 : xS => XW cy ux u28.1 u28.2.1 u28.2.2 ++ MW cy um Vm Jm Rm) (fun _ => rfl) rfl wm_yX11_exactly wn_X11 wl_L_63 wi_yX11_exactly we_yX11_exactly hd_yX11_exactly rfl ⟨Nat.le_of_ble_eq_true rfl, Nat.le_of_ble_eq_true rfl⟩ (Nat.le_of_ble_eq_true rfl) ⟨Nat.le_of_ble_eq_true rfl, Nat.le_of_ble_eq_true rfl⟩ dL_law_620 (fun r28 u28 hr28 h28 => ?_)
  obtain ⟨hS28, hBq28, hRq28, hFq28⟩ := h28
  obtain ⟨V28, J28, R28⟩ := u28
  obtain ⟨hI28, hJ28, hR28⟩ := hS28
  dsimp only at hI28 hJ28 hR28 ⊢
  have hQ28 : XI V28 V28 := XI.toU hI28
  refine x_pop2 C.1 dL_law_623 rfl ?_
  refine x_aload_n C.1 dL_law_624 1 rfl ?_
  refine x_aload_n C.1 dL_law_625 3 rfl ?_
  refine x_iload_n C.1 dL_law_626 0 rfl ?_
  refine x_iconst C.1 (n := 1) dL_law_627 ?_
  refine x_iadd C.1 (v := i + 1) (by omega) dL_law_628 ?_
  refine x_sld C (b := b) (i := i + 1) hX hbl hbA (by omega) (by omega) dL_law_629 ?_
  refine x_aload_n C.1 dL_law_630 3 rfl ?_
  refine x_iload_n C.1 dL_law_631 0 rfl ?_
  refine x_iconst C.1 (n := 2) dL_law_632 ?_
  refine x_iadd C.1 (v := i + 2) (by omega) dL_law_633 ?_
  refine x_sld C (b := b) (i := i + 2) hX hbl hbA (by omega) (by omega) dL_law_634 ?_
  refine x_aload_n C.1 dL_law_635 3 rfl ?_
  refine x_iload_n C.1 dL_law_636 0 rfl ?_
  refine x_iconst C.1 (n := 3) dL_law_637 ?_
  refine x_iadd C.1 (v := i + 3) (by omega) dL_law_638 ?_
  refine x_sld C (b := b) (i := i + 3) hX hbl hbA (by omega) (by omega) dL_law_639 ?_
  refine x_aload_n C.1 dL_law_640 3 rfl ?_
  refine x_iload_n C.1 dL_law_641 0 rfl ?_
  refine x_iconst C.1 (n := 4) dL_law_642 ?_
  refine x_iadd C.1 (v := i + 4) (by omega) dL_law_643 ?_
  refine x_sld C (b := b) (i := i + 4) hX hbl hbA (by omega) (by omega) dL_law_644 ?_
  refine x_callVl C (As := [vI ((xs (i + 1).toNat).toInt), vI ((xs (i + 2).toNat).toInt), vI ((xs (i + 3).toNat).toInt), vI ((xs (i + 4).toNat).toInt)]) (rest := []) 129 law_m vc_X12 (m_exactly l D cy um Vm Vm Jm Rm hVm hJm trivial ((xs (i + 1).toNat).toInt) (xi_r _) ((xs (i + 2).toNat).toInt) (xi_r _) ((xs (i + 3).toNat).toInt) (xi_r _) ((xs (i + 4).toNat).toInt) (xi_r _) hWm) (l1 := XW cy ux V28 J28 R28) (l2 := []) (List.append_nil _).symm (w2 := fun u29 : xS => XW cy ux V28 J28 R28 ++ MW cy um u29.1 u29.2.1 u29.2.2) (fun _ => List.append_nil _) rfl wm_yX12_exactly wn_X12 wl_L_67 wi_yX12_exactly we_yX12_exactly hd_yX12_exactly rfl ⟨Nat.le_of_ble_eq_true rfl, Nat.le_of_ble_eq_true rfl⟩ (Nat.le_of_ble_eq_true rfl) ⟨Nat.le_of_ble_eq_true rfl, Nat.le_of_ble_eq_true rfl⟩ dL_law_645 (fun r29 u29 hr29 h29 => ?_)
  obtain ⟨hS29, hBq29, hFq29⟩ := h29
  obtain ⟨V29, J29, R29⟩ := u29
  obtain ⟨hI29, hJ29, hR29⟩ := hS29
  dsimp only at hI29 hJ29 hR29 ⊢
  have hQ29 : MI V29 V29 := MI.sf hI29
  have hW29 : WP V29 := WP.of hI29 hWm
  have hKq29 : WR R28 V28 V29 := (hKk.keepT (hKk.tp (hBq28 58 1 (by omega)) (funext fun k => hBq28 59 k (by omega)) (hBq29.fl 4 (by decide)) (hBq29.rw 4 (by decide) (by decide))) (fun i hi => funext fun k => hBq28 i k (by omega)) (hBq28 0 3 (by omega)) (fun k _ => k_exactly hFq29 k) (hBq29.rw 3 (by decide) (by decide)) (hBq29.kt (by decide)) (hBq29.fl 53 (by decide))).rk hRq28
  refine x_pop2 C.1 dL_law_648 rfl ?_
  refine x_goto C.1 (tgt := 1495) dL_law_649 (by decide) ?_
  exact kk V28 J28 R28 V29 J29 R29 ⟨hQ28, hJ28, hR28, hQ29, hJ29, hW29, hKq29⟩
set_option maxHeartbeats 8000000 in
set_option maxRecDepth 100000 in
theorem law_case_12 {p : Program} {e : Env} {s : State} {m : MethodId} {below : List Frame} {meth : Method} {c : Code} (l : Launch) (D : va_G) (cy : Nat → ClassId) {b L : Nat} {xs : Nat → Int32} (aK aV : Nat → Nat) (C : xC2 p s m #[Value.ref b] meth c D (fun q => s.heap.size ≤ q) s.heap 4 code RL (xTY cy)) (hE : zE aK aV (fun q => s.heap.size ≤ q) s s.heap) (hr : meth.sig.returnType = ret) (hX : va_X b L xs s s.heap) (hbl : b < s.heap.size) (hbA : ¬ (fun q : Nat => s.heap.size ≤ q) b) (hL : L ≤ 3072) (ux um : Nat → Nat) (i : Int) (hi : 0 ≤ i ∧ i + 6 ≤ L) (Vx Jx : Nat → Nat → Int) (Rx : Nat → Nat → Nat) (Vm Jm : Nat → Nat → Int) (Rm : Nat → Nat → Nat) (hLI : LI Vx Jx Rx Vm Jm Rm) (kk : ∀ (Vx Jx : Nat → Nat → Int) (Rx : Nat → Nat → Nat) (Vm Jm : Nat → Nat → Int) (Rm : Nat → Nat → Nat), LI Vx Jx Rx Vm Jm Rm → xW p l e room_1 s m #[Value.ref b] below meth c D (fun q => s.heap.size ≤ q) s.heap 4 162 8366 (lw_Z below #[Value.ref b] s) (XW cy ux Vx Jx Rx ++ MW cy um Vm Jm Rm) 1495 [(3, vI i), (2, .ref (um 0)), (1, .ref (ux 0)), (0, .ref b)] []) : xW p l e room_1 s m #[Value.ref b] below meth c D (fun q => s.heap.size ≤ q) s.heap 4 162 8366 (lw_Z below #[Value.ref b] s) (XW cy ux Vx Jx Rx ++ MW cy um Vm Jm Rm) 652 [(3, vI i), (2, .ref (um 0)), (1, .ref (ux 0)), (0, .ref b)] [] := by
  obtain ⟨hVx, hJx, hRx, hVm, hJm, hWm, hKk⟩ := hLI
  refine x_aload_n C.1 dL_law_652 2 rfl ?_
  refine x_aload_n C.1 dL_law_653 3 rfl ?_
  refine x_iload_n C.1 dL_law_654 0 rfl ?_
  refine x_iconst C.1 (n := 1) dL_law_655 ?_
  refine x_iadd C.1 (v := i + 1) (by omega) dL_law_656 ?_
  refine x_sld C (b := b) (i := i + 1) hX hbl hbA (by omega) (by omega) dL_law_657 ?_
  refine x_aload_n C.1 dL_law_658 3 rfl ?_
  refine x_iload_n C.1 dL_law_659 0 rfl ?_
  refine x_iconst C.1 (n := 2) dL_law_660 ?_
  refine x_iadd C.1 (v := i + 2) (by omega) dL_law_661 ?_
  refine x_sld C (b := b) (i := i + 2) hX hbl hbA (by omega) (by omega) dL_law_662 ?_
  refine x_aload_n C.1 dL_law_663 3 rfl ?_
  refine x_iload_n C.1 dL_law_664 0 rfl ?_
  refine x_iconst C.1 (n := 3) dL_law_665 ?_
  refine x_iadd C.1 (v := i + 3) (by omega) dL_law_666 ?_
  refine x_sld C (b := b) (i := i + 3) hX hbl hbA (by omega) (by omega) dL_law_667 ?_
  refine x_aload_n C.1 dL_law_668 3 rfl ?_
  refine x_iload_n C.1 dL_law_669 0 rfl ?_
  refine x_iconst C.1 (n := 4) dL_law_670 ?_
  refine x_iadd C.1 (v := i + 4) (by omega) dL_law_671 ?_
  refine x_sld C (b := b) (i := i + 4) hX hbl hbA (by omega) (by omega) dL_law_672 ?_
  refine x_callVl C (As := [vI ((xs (i + 1).toNat).toInt), vI ((xs (i + 2).toNat).toInt), vI ((xs (i + 3).toNat).toInt), vI ((xs (i + 4).toNat).toInt)]) (rest := []) 0 law_x vc_X11 (s_chance l D cy ux Vx Vx Jx Rx hVx hJx hRx ((xs (i + 1).toNat).toInt) (xi_r _) ((xs (i + 2).toNat).toInt) (xi_r _) ((xs (i + 3).toNat).toInt) (xi_r _) ((xs (i + 4).toNat).toInt) (xi_r _)) (l1 := []) (l2 := MW cy um Vm Jm Rm) rfl (w2 := fun u30 : xS => XW cy ux u30.1 u30.2.1 u30.2.2 ++ MW cy um Vm Jm Rm) (fun _ => rfl) rfl wm_yX11_chance wn_X11 wl_L_68 wi_yX11_chance we_yX11_chance hd_yX11_chance rfl ⟨Nat.le_of_ble_eq_true rfl, Nat.le_of_ble_eq_true rfl⟩ (Nat.le_of_ble_eq_true rfl) ⟨Nat.le_of_ble_eq_true rfl, Nat.le_of_ble_eq_true rfl⟩ dL_law_673 (fun r30 u30 hr30 h30 => ?_)
  obtain ⟨hS30, hBq30, hRq30, hFq30⟩ := h30
  obtain ⟨V30, J30, R30⟩ := u30
  obtain ⟨hI30, hJ30, hR30⟩ := hS30
  dsimp only at hI30 hJ30 hR30 ⊢
  have hQ30 : XI V30 V30 := XI.toU hI30
  refine x_pop2 C.1 dL_law_676 rfl ?_
  refine x_aload_n C.1 dL_law_677 1 rfl ?_
  refine x_aload_n C.1 dL_law_678 3 rfl ?_
  refine x_iload_n C.1 dL_law_679 0 rfl ?_
  refine x_iconst C.1 (n := 1) dL_law_680 ?_
  refine x_iadd C.1 (v := i + 1) (by omega) dL_law_681 ?_
  refine x_sld C (b := b) (i := i + 1) hX hbl hbA (by omega) (by omega) dL_law_682 ?_
  refine x_aload_n C.1 dL_law_683 3 rfl ?_
  refine x_iload_n C.1 dL_law_684 0 rfl ?_
  refine x_iconst C.1 (n := 2) dL_law_685 ?_
  refine x_iadd C.1 (v := i + 2) (by omega) dL_law_686 ?_
  refine x_sld C (b := b) (i := i + 2) hX hbl hbA (by omega) (by omega) dL_law_687 ?_
  refine x_aload_n C.1 dL_law_688 3 rfl ?_
  refine x_iload_n C.1 dL_law_689 0 rfl ?_
  refine x_iconst C.1 (n := 3) dL_law_690 ?_
  refine x_iadd C.1 (v := i + 3) (by omega) dL_law_691 ?_
  refine x_sld C (b := b) (i := i + 3) hX hbl hbA (by omega) (by omega) dL_law_692 ?_
  refine x_aload_n C.1 dL_law_693 3 rfl ?_
  refine x_iload_n C.1 dL_law_694 0 rfl ?_
  refine x_iconst C.1 (n := 4) dL_law_695 ?_
  refine x_iadd C.1 (v := i + 4) (by omega) dL_law_696 ?_
  refine x_sld C (b := b) (i := i + 4) hX hbl hbA (by omega) (by omega) dL_law_697 ?_
  refine x_callVl C (As := [vI ((xs (i + 1).toNat).toInt), vI ((xs (i + 2).toNat).toInt), vI ((xs (i + 3).toNat).toInt), vI ((xs (i + 4).toNat).toInt)]) (rest := []) 129 law_m vc_X12 (m_chance l D cy um Vm Vm Jm Rm hVm hJm trivial ((xs (i + 1).toNat).toInt) (xi_r _) ((xs (i + 2).toNat).toInt) (xi_r _) ((xs (i + 3).toNat).toInt) (xi_r _) ((xs (i + 4).toNat).toInt) (xi_r _) hWm) (l1 := XW cy ux V30 J30 R30) (l2 := []) (List.append_nil _).symm (w2 := fun u31 : xS => XW cy ux V30 J30 R30 ++ MW cy um u31.1 u31.2.1 u31.2.2) (fun _ => List.append_nil _) rfl wm_yX12_chance wn_X12 wl_L_71 wi_yX12_chance we_yX12_chance hd_yX12_chance rfl ⟨Nat.le_of_ble_eq_true rfl, Nat.le_of_ble_eq_true rfl⟩ (Nat.le_of_ble_eq_true rfl) ⟨Nat.le_of_ble_eq_true rfl, Nat.le_of_ble_eq_true rfl⟩ dL_law_698 (fun r31 u31 hr31 h31 => ?_)
  obtain ⟨hS31, hBq31, hFq31⟩ := h31
  obtain ⟨V31, J31, R31⟩ := u31
  obtain ⟨hI31, hJ31, hR31⟩ := hS31
  dsimp only at hI31 hJ31 hR31 ⊢
  have hQ31 : MI V31 V31 := MI.sf hI31
  have hW31 : WP V31 := WP.of hI31 hWm
  have hKq31 : WR R30 V30 V31 := (hKk.keepT (hKk.tp (hBq30 58 1 (by omega)) (funext fun k => hBq30 59 k (by omega)) (hBq31.fl 4 (by decide)) (hBq31.rw 4 (by decide) (by decide))) (fun i hi => funext fun k => hBq30 i k (by omega)) (hBq30 0 3 (by omega)) (fun k _ => k_chance hFq31 k) (hBq31.rw 3 (by decide) (by decide)) (hBq31.kt (by decide)) (hBq31.fl 53 (by decide))).rk hRq30
  refine x_pop2 C.1 dL_law_701 rfl ?_
  refine x_goto C.1 (tgt := 1495) dL_law_702 (by decide) ?_
  exact kk V30 J30 R30 V31 J31 R31 ⟨hQ30, hJ30, hR30, hQ31, hJ31, hW31, hKq31⟩
set_option maxHeartbeats 8000000 in
set_option maxRecDepth 100000 in
theorem law_case_13 {p : Program} {e : Env} {s : State} {m : MethodId} {below : List Frame} {meth : Method} {c : Code} (l : Launch) (D : va_G) (cy : Nat → ClassId) {b L : Nat} {xs : Nat → Int32} (aK aV : Nat → Nat) (C : xC2 p s m #[Value.ref b] meth c D (fun q => s.heap.size ≤ q) s.heap 4 code RL (xTY cy)) (hE : zE aK aV (fun q => s.heap.size ≤ q) s s.heap) (hr : meth.sig.returnType = ret) (hX : va_X b L xs s s.heap) (hbl : b < s.heap.size) (hbA : ¬ (fun q : Nat => s.heap.size ≤ q) b) (hL : L ≤ 3072) (ux um : Nat → Nat) (i : Int) (hi : 0 ≤ i ∧ i + 6 ≤ L) (Vx Jx : Nat → Nat → Int) (Rx : Nat → Nat → Nat) (Vm Jm : Nat → Nat → Int) (Rm : Nat → Nat → Nat) (hLI : LI Vx Jx Rx Vm Jm Rm) (kk : ∀ (Vx Jx : Nat → Nat → Int) (Rx : Nat → Nat → Nat) (Vm Jm : Nat → Nat → Int) (Rm : Nat → Nat → Nat), LI Vx Jx Rx Vm Jm Rm → xW p l e room_1 s m #[Value.ref b] below meth c D (fun q => s.heap.size ≤ q) s.heap 4 162 8366 (lw_Z below #[Value.ref b] s) (XW cy ux Vx Jx Rx ++ MW cy um Vm Jm Rm) 1495 [(3, vI i), (2, .ref (um 0)), (1, .ref (ux 0)), (0, .ref b)] []) : xW p l e room_1 s m #[Value.ref b] below meth c D (fun q => s.heap.size ≤ q) s.heap 4 162 8366 (lw_Z below #[Value.ref b] s) (XW cy ux Vx Jx Rx ++ MW cy um Vm Jm Rm) 705 [(3, vI i), (2, .ref (um 0)), (1, .ref (ux 0)), (0, .ref b)] [] := by
  obtain ⟨hVx, hJx, hRx, hVm, hJm, hWm, hKk⟩ := hLI
  refine x_aload_n C.1 dL_law_705 2 rfl ?_
  refine x_aload_n C.1 dL_law_706 3 rfl ?_
  refine x_iload_n C.1 dL_law_707 0 rfl ?_
  refine x_iconst C.1 (n := 1) dL_law_708 ?_
  refine x_iadd C.1 (v := i + 1) (by omega) dL_law_709 ?_
  refine x_sld C (b := b) (i := i + 1) hX hbl hbA (by omega) (by omega) dL_law_710 ?_
  refine x_aload_n C.1 dL_law_711 3 rfl ?_
  refine x_iload_n C.1 dL_law_712 0 rfl ?_
  refine x_iconst C.1 (n := 2) dL_law_713 ?_
  refine x_iadd C.1 (v := i + 2) (by omega) dL_law_714 ?_
  refine x_sld C (b := b) (i := i + 2) hX hbl hbA (by omega) (by omega) dL_law_715 ?_
  refine x_aload_n C.1 dL_law_716 3 rfl ?_
  refine x_iload_n C.1 dL_law_717 0 rfl ?_
  refine x_iconst C.1 (n := 3) dL_law_718 ?_
  refine x_iadd C.1 (v := i + 3) (by omega) dL_law_719 ?_
  refine x_sld C (b := b) (i := i + 3) hX hbl hbA (by omega) (by omega) dL_law_720 ?_
  refine x_aload_n C.1 dL_law_721 3 rfl ?_
  refine x_iload_n C.1 dL_law_722 0 rfl ?_
  refine x_iconst C.1 (n := 4) dL_law_723 ?_
  refine x_iadd C.1 (v := i + 4) (by omega) dL_law_724 ?_
  refine x_sld C (b := b) (i := i + 4) hX hbl hbA (by omega) (by omega) dL_law_725 ?_
  refine x_callVl C (As := [vI ((xs (i + 1).toNat).toInt), vI ((xs (i + 2).toNat).toInt), vI ((xs (i + 3).toNat).toInt), vI ((xs (i + 4).toNat).toInt)]) (rest := []) 0 law_x vc_X11 (s_toAsk l D cy ux Vx Vx Jx Rx hVx hJx hRx ((xs (i + 1).toNat).toInt) (xi_r _) ((xs (i + 2).toNat).toInt) (xi_r _) ((xs (i + 3).toNat).toInt) (xi_r _) ((xs (i + 4).toNat).toInt) (xi_r _)) (l1 := []) (l2 := MW cy um Vm Jm Rm) rfl (w2 := fun u32 : xS => XW cy ux u32.1 u32.2.1 u32.2.2 ++ MW cy um Vm Jm Rm) (fun _ => rfl) rfl wm_yX11_toAsk wn_X11 wl_L_72 wi_yX11_toAsk we_yX11_toAsk hd_yX11_toAsk rfl ⟨Nat.le_of_ble_eq_true rfl, Nat.le_of_ble_eq_true rfl⟩ (Nat.le_of_ble_eq_true rfl) ⟨Nat.le_of_ble_eq_true rfl, Nat.le_of_ble_eq_true rfl⟩ dL_law_726 (fun r32 u32 hr32 h32 => ?_)
  obtain ⟨hS32, hBq32, hRq32, hFq32⟩ := h32
  obtain ⟨V32, J32, R32⟩ := u32
  obtain ⟨hI32, hJ32, hR32⟩ := hS32
  dsimp only at hI32 hJ32 hR32 ⊢
  have hQ32 : XI V32 V32 := XI.toU hI32
  refine x_pop2 C.1 dL_law_729 rfl ?_
  refine x_aload_n C.1 dL_law_730 1 rfl ?_
  refine x_aload_n C.1 dL_law_731 3 rfl ?_
  refine x_iload_n C.1 dL_law_732 0 rfl ?_
  refine x_iconst C.1 (n := 1) dL_law_733 ?_
  refine x_iadd C.1 (v := i + 1) (by omega) dL_law_734 ?_
  refine x_sld C (b := b) (i := i + 1) hX hbl hbA (by omega) (by omega) dL_law_735 ?_
  refine x_aload_n C.1 dL_law_736 3 rfl ?_
  refine x_iload_n C.1 dL_law_737 0 rfl ?_
  refine x_iconst C.1 (n := 2) dL_law_738 ?_
  refine x_iadd C.1 (v := i + 2) (by omega) dL_law_739 ?_
  refine x_sld C (b := b) (i := i + 2) hX hbl hbA (by omega) (by omega) dL_law_740 ?_
  refine x_aload_n C.1 dL_law_741 3 rfl ?_
  refine x_iload_n C.1 dL_law_742 0 rfl ?_
  refine x_iconst C.1 (n := 3) dL_law_743 ?_
  refine x_iadd C.1 (v := i + 3) (by omega) dL_law_744 ?_
  refine x_sld C (b := b) (i := i + 3) hX hbl hbA (by omega) (by omega) dL_law_745 ?_
  refine x_aload_n C.1 dL_law_746 3 rfl ?_
  refine x_iload_n C.1 dL_law_747 0 rfl ?_
  refine x_iconst C.1 (n := 4) dL_law_748 ?_
  refine x_iadd C.1 (v := i + 4) (by omega) dL_law_749 ?_
  refine x_sld C (b := b) (i := i + 4) hX hbl hbA (by omega) (by omega) dL_law_750 ?_
  refine x_callVl C (As := [vI ((xs (i + 1).toNat).toInt), vI ((xs (i + 2).toNat).toInt), vI ((xs (i + 3).toNat).toInt), vI ((xs (i + 4).toNat).toInt)]) (rest := []) 129 law_m vc_X12 (m_toAsk l D cy um Vm Vm Jm Rm hVm hJm trivial ((xs (i + 1).toNat).toInt) (xi_r _) ((xs (i + 2).toNat).toInt) (xi_r _) ((xs (i + 3).toNat).toInt) (xi_r _) ((xs (i + 4).toNat).toInt) (xi_r _) hWm) (l1 := XW cy ux V32 J32 R32) (l2 := []) (List.append_nil _).symm (w2 := fun u33 : xS => XW cy ux V32 J32 R32 ++ MW cy um u33.1 u33.2.1 u33.2.2) (fun _ => List.append_nil _) rfl wm_yX12_toAsk wn_X12 wl_L_75 wi_yX12_toAsk we_yX12_toAsk hd_yX12_toAsk rfl ⟨Nat.le_of_ble_eq_true rfl, Nat.le_of_ble_eq_true rfl⟩ (Nat.le_of_ble_eq_true rfl) ⟨Nat.le_of_ble_eq_true rfl, Nat.le_of_ble_eq_true rfl⟩ dL_law_751 (fun r33 u33 hr33 h33 => ?_)
  obtain ⟨hS33, hBq33, hFq33⟩ := h33
  obtain ⟨V33, J33, R33⟩ := u33
  obtain ⟨hI33, hJ33, hR33⟩ := hS33
  dsimp only at hI33 hJ33 hR33 ⊢
  have hQ33 : MI V33 V33 := MI.sf hI33
  have hW33 : WP V33 := WP.of hI33 hWm
  have hKq33 : WR R32 V32 V33 := (hKk.keepT (hKk.tp (hBq32 58 1 (by omega)) (funext fun k => hBq32 59 k (by omega)) (hBq33.fl 4 (by decide)) (hBq33.rw 4 (by decide) (by decide))) (fun i hi => funext fun k => hBq32 i k (by omega)) (hBq32 0 3 (by omega)) (fun k _ => k_toAsk hFq33 k) (hBq33.rw 3 (by decide) (by decide)) (hBq33.kt (by decide)) (hBq33.fl 53 (by decide))).rk hRq32
  refine x_pop2 C.1 dL_law_754 rfl ?_
  refine x_goto C.1 (tgt := 1495) dL_law_755 (by decide) ?_
  exact kk V32 J32 R32 V33 J33 R33 ⟨hQ32, hJ32, hR32, hQ33, hJ33, hW33, hKq33⟩
set_option maxHeartbeats 8000000 in
set_option maxRecDepth 100000 in
theorem law_case_14 {p : Program} {e : Env} {s : State} {m : MethodId} {below : List Frame} {meth : Method} {c : Code} (l : Launch) (D : va_G) (cy : Nat → ClassId) {b L : Nat} {xs : Nat → Int32} (aK aV : Nat → Nat) (C : xC2 p s m #[Value.ref b] meth c D (fun q => s.heap.size ≤ q) s.heap 4 code RL (xTY cy)) (hE : zE aK aV (fun q => s.heap.size ≤ q) s s.heap) (hr : meth.sig.returnType = ret) (hX : va_X b L xs s s.heap) (hbl : b < s.heap.size) (hbA : ¬ (fun q : Nat => s.heap.size ≤ q) b) (hL : L ≤ 3072) (ux um : Nat → Nat) (i : Int) (hi : 0 ≤ i ∧ i + 6 ≤ L) (Vx Jx : Nat → Nat → Int) (Rx : Nat → Nat → Nat) (Vm Jm : Nat → Nat → Int) (Rm : Nat → Nat → Nat) (hLI : LI Vx Jx Rx Vm Jm Rm) (kk : ∀ (Vx Jx : Nat → Nat → Int) (Rx : Nat → Nat → Nat) (Vm Jm : Nat → Nat → Int) (Rm : Nat → Nat → Nat), LI Vx Jx Rx Vm Jm Rm → xW p l e room_1 s m #[Value.ref b] below meth c D (fun q => s.heap.size ≤ q) s.heap 4 162 8366 (lw_Z below #[Value.ref b] s) (XW cy ux Vx Jx Rx ++ MW cy um Vm Jm Rm) 1495 [(3, vI i), (2, .ref (um 0)), (1, .ref (ux 0)), (0, .ref b)] []) : xW p l e room_1 s m #[Value.ref b] below meth c D (fun q => s.heap.size ≤ q) s.heap 4 162 8366 (lw_Z below #[Value.ref b] s) (XW cy ux Vx Jx Rx ++ MW cy um Vm Jm Rm) 758 [(3, vI i), (2, .ref (um 0)), (1, .ref (ux 0)), (0, .ref b)] [] := by
  obtain ⟨hVx, hJx, hRx, hVm, hJm, hWm, hKk⟩ := hLI
  refine x_aload_n C.1 dL_law_758 2 rfl ?_
  refine x_aload_n C.1 dL_law_759 3 rfl ?_
  refine x_iload_n C.1 dL_law_760 0 rfl ?_
  refine x_iconst C.1 (n := 1) dL_law_761 ?_
  refine x_iadd C.1 (v := i + 1) (by omega) dL_law_762 ?_
  refine x_sld C (b := b) (i := i + 1) hX hbl hbA (by omega) (by omega) dL_law_763 ?_
  refine x_aload_n C.1 dL_law_764 3 rfl ?_
  refine x_iload_n C.1 dL_law_765 0 rfl ?_
  refine x_iconst C.1 (n := 2) dL_law_766 ?_
  refine x_iadd C.1 (v := i + 2) (by omega) dL_law_767 ?_
  refine x_sld C (b := b) (i := i + 2) hX hbl hbA (by omega) (by omega) dL_law_768 ?_
  refine x_aload_n C.1 dL_law_769 3 rfl ?_
  refine x_iload_n C.1 dL_law_770 0 rfl ?_
  refine x_iconst C.1 (n := 3) dL_law_771 ?_
  refine x_iadd C.1 (v := i + 3) (by omega) dL_law_772 ?_
  refine x_sld C (b := b) (i := i + 3) hX hbl hbA (by omega) (by omega) dL_law_773 ?_
  refine x_aload_n C.1 dL_law_774 3 rfl ?_
  refine x_iload_n C.1 dL_law_775 0 rfl ?_
  refine x_iconst C.1 (n := 4) dL_law_776 ?_
  refine x_iadd C.1 (v := i + 4) (by omega) dL_law_777 ?_
  refine x_sld C (b := b) (i := i + 4) hX hbl hbA (by omega) (by omega) dL_law_778 ?_
  refine x_callVi C (As := [vI ((xs (i + 1).toNat).toInt), vI ((xs (i + 2).toNat).toInt), vI ((xs (i + 3).toNat).toInt), vI ((xs (i + 4).toNat).toInt)]) (rest := []) 0 law_x vc_X11 (s_few l D cy ux Vx Vx Jx Rx hVx hJx hRx ((xs (i + 1).toNat).toInt) (xi_r _) ((xs (i + 2).toNat).toInt) (xi_r _) ((xs (i + 3).toNat).toInt) (xi_r _) ((xs (i + 4).toNat).toInt) (xi_r _)) (l1 := []) (l2 := MW cy um Vm Jm Rm) rfl (w2 := fun u34 : xS => XW cy ux u34.1 u34.2.1 u34.2.2 ++ MW cy um Vm Jm Rm) (fun _ => rfl) rfl wm_yX11_few wn_X11 wl_L_76 wi_yX11_few we_yX11_few hd_yX11_few rfl ⟨Nat.le_of_ble_eq_true rfl, Nat.le_of_ble_eq_true rfl⟩ (Nat.le_of_ble_eq_true rfl) ⟨Nat.le_of_ble_eq_true rfl, Nat.le_of_ble_eq_true rfl⟩ dL_law_779 (fun r34 u34 hr34 h34 => ?_)
  obtain ⟨hS34, hBq34, hRq34, hFq34⟩ := h34
  obtain ⟨V34, J34, R34⟩ := u34
  obtain ⟨hI34, hJ34, hR34⟩ := hS34
  dsimp only at hI34 hJ34 hR34 ⊢
  have hQ34 : XI V34 V34 := XI.toU hI34
  refine x_pop C.1 dL_law_782 rfl ?_
  refine x_aload_n C.1 dL_law_783 1 rfl ?_
  refine x_aload_n C.1 dL_law_784 3 rfl ?_
  refine x_iload_n C.1 dL_law_785 0 rfl ?_
  refine x_iconst C.1 (n := 1) dL_law_786 ?_
  refine x_iadd C.1 (v := i + 1) (by omega) dL_law_787 ?_
  refine x_sld C (b := b) (i := i + 1) hX hbl hbA (by omega) (by omega) dL_law_788 ?_
  refine x_aload_n C.1 dL_law_789 3 rfl ?_
  refine x_iload_n C.1 dL_law_790 0 rfl ?_
  refine x_iconst C.1 (n := 2) dL_law_791 ?_
  refine x_iadd C.1 (v := i + 2) (by omega) dL_law_792 ?_
  refine x_sld C (b := b) (i := i + 2) hX hbl hbA (by omega) (by omega) dL_law_793 ?_
  refine x_aload_n C.1 dL_law_794 3 rfl ?_
  refine x_iload_n C.1 dL_law_795 0 rfl ?_
  refine x_iconst C.1 (n := 3) dL_law_796 ?_
  refine x_iadd C.1 (v := i + 3) (by omega) dL_law_797 ?_
  refine x_sld C (b := b) (i := i + 3) hX hbl hbA (by omega) (by omega) dL_law_798 ?_
  refine x_aload_n C.1 dL_law_799 3 rfl ?_
  refine x_iload_n C.1 dL_law_800 0 rfl ?_
  refine x_iconst C.1 (n := 4) dL_law_801 ?_
  refine x_iadd C.1 (v := i + 4) (by omega) dL_law_802 ?_
  refine x_sld C (b := b) (i := i + 4) hX hbl hbA (by omega) (by omega) dL_law_803 ?_
  refine x_callVi C (As := [vI ((xs (i + 1).toNat).toInt), vI ((xs (i + 2).toNat).toInt), vI ((xs (i + 3).toNat).toInt), vI ((xs (i + 4).toNat).toInt)]) (rest := []) 129 law_m vc_X12 (m_few l D cy um Vm Vm Jm Rm hVm hJm trivial ((xs (i + 1).toNat).toInt) (xi_r _) ((xs (i + 2).toNat).toInt) (xi_r _) ((xs (i + 3).toNat).toInt) (xi_r _) ((xs (i + 4).toNat).toInt) (xi_r _) hWm) (l1 := XW cy ux V34 J34 R34) (l2 := []) (List.append_nil _).symm (w2 := fun u35 : xS => XW cy ux V34 J34 R34 ++ MW cy um u35.1 u35.2.1 u35.2.2) (fun _ => List.append_nil _) rfl wm_yX12_few wn_X12 wl_L_80 wi_yX12_few we_yX12_few hd_yX12_few rfl ⟨Nat.le_of_ble_eq_true rfl, Nat.le_of_ble_eq_true rfl⟩ (Nat.le_of_ble_eq_true rfl) ⟨Nat.le_of_ble_eq_true rfl, Nat.le_of_ble_eq_true rfl⟩ dL_law_804 (fun r35 u35 hr35 h35 => ?_)
  obtain ⟨hS35, hBq35, hFq35⟩ := h35
  obtain ⟨V35, J35, R35⟩ := u35
  obtain ⟨hI35, hJ35, hR35⟩ := hS35
  dsimp only at hI35 hJ35 hR35 ⊢
  have hQ35 : MI V35 V35 := MI.sf hI35
  have hW35 : WP V35 := WP.of hI35 hWm
  have hKq35 : WR R34 V34 V35 := (hKk.keepT (hKk.tp (hBq34 58 1 (by omega)) (funext fun k => hBq34 59 k (by omega)) (hBq35.fl 4 (by decide)) (hBq35.rw 4 (by decide) (by decide))) (fun i hi => funext fun k => hBq34 i k (by omega)) (hBq34 0 3 (by omega)) (fun k _ => k_few hFq35 k) (hBq35.rw 3 (by decide) (by decide)) (hBq35.kt (by decide)) (hBq35.fl 53 (by decide))).rk hRq34
  refine x_pop C.1 dL_law_807 rfl ?_
  refine x_goto C.1 (tgt := 1495) dL_law_808 (by decide) ?_
  exact kk V34 J34 R34 V35 J35 R35 ⟨hQ34, hJ34, hR34, hQ35, hJ35, hW35, hKq35⟩
set_option maxHeartbeats 8000000 in
set_option maxRecDepth 100000 in
theorem law_case_15 {p : Program} {e : Env} {s : State} {m : MethodId} {below : List Frame} {meth : Method} {c : Code} (l : Launch) (D : va_G) (cy : Nat → ClassId) {b L : Nat} {xs : Nat → Int32} (aK aV : Nat → Nat) (C : xC2 p s m #[Value.ref b] meth c D (fun q => s.heap.size ≤ q) s.heap 4 code RL (xTY cy)) (hE : zE aK aV (fun q => s.heap.size ≤ q) s s.heap) (hr : meth.sig.returnType = ret) (hX : va_X b L xs s s.heap) (hbl : b < s.heap.size) (hbA : ¬ (fun q : Nat => s.heap.size ≤ q) b) (hL : L ≤ 3072) (ux um : Nat → Nat) (i : Int) (hi : 0 ≤ i ∧ i + 6 ≤ L) (Vx Jx : Nat → Nat → Int) (Rx : Nat → Nat → Nat) (Vm Jm : Nat → Nat → Int) (Rm : Nat → Nat → Nat) (hLI : LI Vx Jx Rx Vm Jm Rm) (kk : ∀ (Vx Jx : Nat → Nat → Int) (Rx : Nat → Nat → Nat) (Vm Jm : Nat → Nat → Int) (Rm : Nat → Nat → Nat), LI Vx Jx Rx Vm Jm Rm → xW p l e room_1 s m #[Value.ref b] below meth c D (fun q => s.heap.size ≤ q) s.heap 4 162 8366 (lw_Z below #[Value.ref b] s) (XW cy ux Vx Jx Rx ++ MW cy um Vm Jm Rm) 1495 [(3, vI i), (2, .ref (um 0)), (1, .ref (ux 0)), (0, .ref b)] []) : xW p l e room_1 s m #[Value.ref b] below meth c D (fun q => s.heap.size ≤ q) s.heap 4 162 8366 (lw_Z below #[Value.ref b] s) (XW cy ux Vx Jx Rx ++ MW cy um Vm Jm Rm) 811 [(3, vI i), (2, .ref (um 0)), (1, .ref (ux 0)), (0, .ref b)] [] := by
  obtain ⟨hVx, hJx, hRx, hVm, hJm, hWm, hKk⟩ := hLI
  refine x_aload_n C.1 dL_law_811 2 rfl ?_
  refine x_aload_n C.1 dL_law_812 3 rfl ?_
  refine x_iload_n C.1 dL_law_813 0 rfl ?_
  refine x_iconst C.1 (n := 1) dL_law_814 ?_
  refine x_iadd C.1 (v := i + 1) (by omega) dL_law_815 ?_
  refine x_sld C (b := b) (i := i + 1) hX hbl hbA (by omega) (by omega) dL_law_816 ?_
  refine x_aload_n C.1 dL_law_817 3 rfl ?_
  refine x_iload_n C.1 dL_law_818 0 rfl ?_
  refine x_iconst C.1 (n := 2) dL_law_819 ?_
  refine x_iadd C.1 (v := i + 2) (by omega) dL_law_820 ?_
  refine x_sld C (b := b) (i := i + 2) hX hbl hbA (by omega) (by omega) dL_law_821 ?_
  refine x_aload_n C.1 dL_law_822 3 rfl ?_
  refine x_iload_n C.1 dL_law_823 0 rfl ?_
  refine x_iconst C.1 (n := 3) dL_law_824 ?_
  refine x_iadd C.1 (v := i + 3) (by omega) dL_law_825 ?_
  refine x_sld C (b := b) (i := i + 3) hX hbl hbA (by omega) (by omega) dL_law_826 ?_
  refine x_aload_n C.1 dL_law_827 3 rfl ?_
  refine x_iload_n C.1 dL_law_828 0 rfl ?_
  refine x_iconst C.1 (n := 4) dL_law_829 ?_
  refine x_iadd C.1 (v := i + 4) (by omega) dL_law_830 ?_
  refine x_sld C (b := b) (i := i + 4) hX hbl hbA (by omega) (by omega) dL_law_831 ?_
  refine x_callVl C (As := [vI ((xs (i + 1).toNat).toInt), vI ((xs (i + 2).toNat).toInt), vI ((xs (i + 3).toNat).toInt), vI ((xs (i + 4).toNat).toInt)]) (rest := []) 0 law_x vc_X11 (s_pot l D cy ux Vx Vx Jx Rx hVx hJx hRx ((xs (i + 1).toNat).toInt) (xi_r _) ((xs (i + 2).toNat).toInt) (xi_r _) ((xs (i + 3).toNat).toInt) (xi_r _) ((xs (i + 4).toNat).toInt) (xi_r _)) (l1 := []) (l2 := MW cy um Vm Jm Rm) rfl (w2 := fun u36 : xS => XW cy ux u36.1 u36.2.1 u36.2.2 ++ MW cy um Vm Jm Rm) (fun _ => rfl) rfl wm_yX11_pot wn_X11 wl_L_81 wi_yX11_pot we_yX11_pot hd_yX11_pot rfl ⟨Nat.le_of_ble_eq_true rfl, Nat.le_of_ble_eq_true rfl⟩ (Nat.le_of_ble_eq_true rfl) ⟨Nat.le_of_ble_eq_true rfl, Nat.le_of_ble_eq_true rfl⟩ dL_law_832 (fun r36 u36 hr36 h36 => ?_)
  obtain ⟨hS36, hBq36, hRq36, hFq36⟩ := h36
  obtain ⟨V36, J36, R36⟩ := u36
  obtain ⟨hI36, hJ36, hR36⟩ := hS36
  dsimp only at hI36 hJ36 hR36 ⊢
  have hQ36 : XI V36 V36 := XI.toU hI36
  refine x_pop2 C.1 dL_law_835 rfl ?_
  refine x_aload_n C.1 dL_law_836 1 rfl ?_
  refine x_aload_n C.1 dL_law_837 3 rfl ?_
  refine x_iload_n C.1 dL_law_838 0 rfl ?_
  refine x_iconst C.1 (n := 1) dL_law_839 ?_
  refine x_iadd C.1 (v := i + 1) (by omega) dL_law_840 ?_
  refine x_sld C (b := b) (i := i + 1) hX hbl hbA (by omega) (by omega) dL_law_841 ?_
  refine x_aload_n C.1 dL_law_842 3 rfl ?_
  refine x_iload_n C.1 dL_law_843 0 rfl ?_
  refine x_iconst C.1 (n := 2) dL_law_844 ?_
  refine x_iadd C.1 (v := i + 2) (by omega) dL_law_845 ?_
  refine x_sld C (b := b) (i := i + 2) hX hbl hbA (by omega) (by omega) dL_law_846 ?_
  refine x_aload_n C.1 dL_law_847 3 rfl ?_
  refine x_iload_n C.1 dL_law_848 0 rfl ?_
  refine x_iconst C.1 (n := 3) dL_law_849 ?_
  refine x_iadd C.1 (v := i + 3) (by omega) dL_law_850 ?_
  refine x_sld C (b := b) (i := i + 3) hX hbl hbA (by omega) (by omega) dL_law_851 ?_
  refine x_aload_n C.1 dL_law_852 3 rfl ?_
  refine x_iload_n C.1 dL_law_853 0 rfl ?_
  refine x_iconst C.1 (n := 4) dL_law_854 ?_
  refine x_iadd C.1 (v := i + 4) (by omega) dL_law_855 ?_
  refine x_sld C (b := b) (i := i + 4) hX hbl hbA (by omega) (by omega) dL_law_856 ?_
  refine x_callVl C (As := [vI ((xs (i + 1).toNat).toInt), vI ((xs (i + 2).toNat).toInt), vI ((xs (i + 3).toNat).toInt), vI ((xs (i + 4).toNat).toInt)]) (rest := []) 129 law_m vc_X12 (m_pot l D cy um Vm Vm Jm Rm hVm hJm trivial ((xs (i + 1).toNat).toInt) (xi_r _) ((xs (i + 2).toNat).toInt) (xi_r _) ((xs (i + 3).toNat).toInt) (xi_r _) ((xs (i + 4).toNat).toInt) (xi_r _) hWm) (l1 := XW cy ux V36 J36 R36) (l2 := []) (List.append_nil _).symm (w2 := fun u37 : xS => XW cy ux V36 J36 R36 ++ MW cy um u37.1 u37.2.1 u37.2.2) (fun _ => List.append_nil _) rfl wm_yX12_pot wn_X12 wl_L_84 wi_yX12_pot we_yX12_pot hd_yX12_pot rfl ⟨Nat.le_of_ble_eq_true rfl, Nat.le_of_ble_eq_true rfl⟩ (Nat.le_of_ble_eq_true rfl) ⟨Nat.le_of_ble_eq_true rfl, Nat.le_of_ble_eq_true rfl⟩ dL_law_857 (fun r37 u37 hr37 h37 => ?_)
  obtain ⟨hS37, hBq37, hFq37⟩ := h37
  obtain ⟨V37, J37, R37⟩ := u37
  obtain ⟨hI37, hJ37, hR37⟩ := hS37
  dsimp only at hI37 hJ37 hR37 ⊢
  have hQ37 : MI V37 V37 := MI.sf hI37
  have hW37 : WP V37 := WP.of hI37 hWm
  have hKq37 : WR R36 V36 V37 := (hKk.keepT (hKk.tp (hBq36 58 1 (by omega)) (funext fun k => hBq36 59 k (by omega)) (hBq37.fl 4 (by decide)) (hBq37.rw 4 (by decide) (by decide))) (fun i hi => funext fun k => hBq36 i k (by omega)) (hBq36 0 3 (by omega)) (fun k _ => k_pot hFq37 k) (hBq37.rw 3 (by decide) (by decide)) (hBq37.kt (by decide)) (hBq37.fl 53 (by decide))).rk hRq36
  refine x_pop2 C.1 dL_law_860 rfl ?_
  refine x_goto C.1 (tgt := 1495) dL_law_861 (by decide) ?_
  exact kk V36 J36 R36 V37 J37 R37 ⟨hQ36, hJ36, hR36, hQ37, hJ37, hW37, hKq37⟩
