theorem WG_good2 (c1 : Cond) (h1 : c1 ∈ WG) : GoodIn WG (c1 :: WG) := by
  intro w hw
  have : w ∈ WG := by
    rcases List.mem_cons.mp hw with h | h
    · rw [h]; exact h1
    · exact h
  exact ⟨this, good_of_word (List.mem_filter.mp this).2⟩
def xNst : List (String × Nat × MethodName × String) := [(RX11, 24, yX8_init, RX11), (RX11, 40, yX2_init, RX11), (RX11, 54, yX7_init, RX11), (RX1, 11, yX9_init, RX11), (RX1, 31, yX0_init, RX11), (RX3, 27, yX5_init, RX11), (RX3, 28, yX4_init, RX11), (RX3, 55, yX11_isPlace, RX11), (RX6, 11, yX9_init, RX11), (RX10, 27, yX5_init, RX11)]
def xK (D : va_G) (TY : List (ClassId × FieldType)) (U : State) : Prop := va_K D vwCl TY U ∧ (∀ C ∈ [RX5, RX4, RX9], va_AO C U) ∧ ∀ q ∈ xNst, va_Nw (.methodLinkNest q.1 q.2.1 q.2.2.1 q.2.2.2) U
theorem xK.warm {D : va_G} {TY : List (ClassId × FieldType)} {s U : State} (hW : s.WarmedH U.vm) (h : xK D TY s) : xK D TY U := ⟨va_K.moved hW.alike h.1, fun C hC => va_AO.moved hW.alike (h.2.1 C hC), fun q hq => va_Nw.warmM hW (h.2.2 q hq)⟩
theorem xK.call {D : va_G} {TY : List (ClassId × FieldType)} {U : State} (g : JFrame) (mk : MethodId) (a : Array Value) (h : xK D TY U) : xK D TY (U.calling g mk a) := ⟨va_K.moved (u := U) (U := U.calling g mk a) (Vm.Alike.refl U.vm) h.1, fun C hC => va_AO.moved (u := U) (U := U.calling g mk a) (Vm.Alike.refl U.vm) (h.2.1 C hC), fun q hq => va_Nw.same (u := U) (U := U.calling g mk a) rfl rfl (h.2.2 q hq)⟩
def xPre (D : va_G) (TY : List (ClassId × FieldType)) (wc : va_W) (sz : Nat) (U : State) : Prop := U.heap.size = sz ∧ va_P D vwCl wc U.heap ∧ xK D TY U ∧ va_D (fun _ => True) wc
def xB (D : va_G) (A : Nat → Prop) {S : Type} (w1 : S → va_W) (u : S) (t : State) : Prop := va_P D vwCl (w1 u) t.heap ∧ va_D A (w1 u)
/-- a contract: int, long, nothing, reference -/
def xMi (l : Launch) (D : va_G) (TY : List (ClassId × FieldType)) (y : MethodName) (cc : ByteArray) (maxL : Nat) (ret : Option FieldType) (fr lo mc ms : Nat) (av : List Value) (wc : va_W) {S : Type} (w1 : S → va_W) (post : Int → S → Prop) : Prop := ∀ sz : Nat, Met l y (Cond.code y cc maxL ret :: WG) ({ frames := fr, cells := mc, slots := ms, locals := lo }) (va_Pc av (xPre D TY wc sz)) (va_Qi (fun r u => post r.toInt u) (xB D (va_A wc sz) w1) (va_A wc sz)) mc ms (va_A wc sz)
def xMl (l : Launch) (D : va_G) (TY : List (ClassId × FieldType)) (y : MethodName) (cc : ByteArray) (maxL : Nat) (ret : Option FieldType) (fr lo mc ms : Nat) (av : List Value) (wc : va_W) {S : Type} (w1 : S → va_W) (post : Int → S → Prop) : Prop := ∀ sz : Nat, Met l y (Cond.code y cc maxL ret :: WG) ({ frames := fr, cells := mc, slots := ms, locals := lo }) (va_Pc av (xPre D TY wc sz)) (va_Ql (fun r u => post r.toInt u) (xB D (va_A wc sz) w1) (va_A wc sz)) mc ms (va_A wc sz)
def xMv (l : Launch) (D : va_G) (TY : List (ClassId × FieldType)) (y : MethodName) (cc : ByteArray) (maxL : Nat) (ret : Option FieldType) (fr lo mc ms : Nat) (av : List Value) (wc : va_W) {S : Type} (w1 : S → va_W) (post : S → Prop) : Prop := ∀ sz : Nat, Met l y (Cond.code y cc maxL ret :: WG) ({ frames := fr, cells := mc, slots := ms, locals := lo }) (va_Pc av (xPre D TY wc sz)) (va_Qv (fun u => post u) (xB D (va_A wc sz) w1) (va_A wc sz)) mc ms (va_A wc sz)
theorem xPre.blind {D : va_G} {TY : List (ClassId × FieldType)} {wc : va_W} {sz : Nat} {av : List Value} : FrameBlind (va_Pc av (xPre D TY wc sz)) := fun a U g mk h => ⟨h.1, h.2.1, h.2.2.1, xK.call g mk a h.2.2.2.1, h.2.2.2.2⟩
theorem xframe {D : va_G} {ws wc l1 l2 w1 : va_W} {H H1 : Heap} {A0 : Nat → Prop} (hws : ws = l1 ++ wc ++ l2) (hP : va_P D vwCl ws H) (hD : va_D A0 ws) (hk : ∀ q : Nat, q < H.size → ¬ va_A wc H.size q → H1[q]? = H[q]?) (hF : ∀ q, va_A wc H.size q → A0 q) (hP1 : va_P D vwCl w1 H1) (hD1 : va_D (va_A wc H.size) w1) : va_P D vwCl (l1 ++ w1 ++ l2) H1 ∧ va_D A0 (l1 ++ w1 ++ l2) := by
  subst hws
  have e1 : ∀ (k : Nat) (q : Nat × va_E), l1[k]? = some q → (l1 ++ wc ++ l2)[k]? = some q := fun k q h => by
    have hl := (List.getElem?_eq_some_iff.mp h).1
    rw [List.append_assoc, List.getElem?_append_left hl]; exact h
  have e2 : ∀ (k : Nat) (q : Nat × va_E), wc[k]? = some q → (l1 ++ wc ++ l2)[l1.length + k]? = some q := fun k q h => by
    have hl := (List.getElem?_eq_some_iff.mp h).1
    rw [List.append_assoc, List.getElem?_append_right (by omega), Nat.add_sub_cancel_left, List.getElem?_append_left hl]; exact h
  have e3 : ∀ (k : Nat) (q : Nat × va_E), l2[k]? = some q → (l1 ++ wc ++ l2)[l1.length + wc.length + k]? = some q := fun k q h => by
    rw [List.getElem?_append_right (by simp)]
    simp only [List.length_append, Nat.add_sub_cancel_left]; exact h
  have a1 : ∀ (k : Nat) (q : Nat × va_E), l1[k]? = some q → q.1 < H.size ∧ ¬ va_A wc H.size q.1 := by
    intro k q h
    have hl := (hP _ q (e1 k q h)).lt
    refine ⟨hl, fun hh => ?_⟩
    rcases hh with ⟨k2, e, h2⟩ | h2
    · have := hD.1 _ _ q (q.1, e) (e1 k q h) (e2 k2 _ h2) rfl
      have hl := (List.getElem?_eq_some_iff.mp h).1
      omega
    · omega
  have a2 : ∀ (k : Nat) (q : Nat × va_E), l2[k]? = some q → q.1 < H.size ∧ ¬ va_A wc H.size q.1 := by
    intro k q h
    have hl := (hP _ q (e3 k q h)).lt
    refine ⟨hl, fun hh => ?_⟩
    rcases hh with ⟨k2, e, h2⟩ | h2
    · have := hD.1 _ _ q (q.1, e) (e3 k q h) (e2 k2 _ h2) rfl
      have hl := (List.getElem?_eq_some_iff.mp h2).1
      omega
    · omega
  have p1 : va_P D vwCl l1 H1 := fun k q h => (hP _ q (e1 k q h)).kept (hk q.1 (a1 k q h).1 (a1 k q h).2)
  have p2 : va_P D vwCl l2 H1 := fun k q h => (hP _ q (e3 k q h)).kept (hk q.1 (a2 k q h).1 (a2 k q h).2)
  have d1 : va_D A0 l1 := ⟨fun i j x y hx hy hxy => hD.1 i j x y (e1 i x hx) (e1 j y hy) hxy, fun k q h => hD.2 _ q (e1 k q h)⟩
  have d2 : va_D A0 l2 := ⟨fun i j x y hx hy hxy => by
    have := hD.1 _ _ x y (e3 i x hx) (e3 j y hy) hxy
    omega, fun k q h => hD.2 _ q (e3 k q h)⟩
  have dw : va_D A0 w1 := hD1.weaken (fun k q _ h => hF q.1 h)
  refine ⟨va_P.app (va_P.app p1 hP1) p2, va_D.app (va_D.app d1 dw (fun i j x y hx hy hxy => ?_)) d2 (fun i j x y hx hy hxy => ?_)⟩
  · exact (a1 i x hx).2 (by rw [hxy]; exact hD1.2 j y hy)
  · by_cases hl : i < l1.length
    · rw [List.getElem?_append_left hl] at hx
      have := hD.1 _ _ x y (e1 i x hx) (e3 j y hy) hxy
      omega
    · rw [List.getElem?_append_right (by omega)] at hx
      exact (a2 j y hy).2 (by rw [← hxy]; exact hD1.2 _ x hx)
theorem xfree {D : va_G} {ws wc l1 l2 : va_W} {H H0 : Heap} {A0 : Nat → Prop} {locs : List Loc} (hws : ws = l1 ++ wc ++ l2) (hD : va_D A0 ws) (hS : va_S A0 H0 H locs) (hA : ∀ q : Nat, H0.size ≤ q → A0 q) : ∀ q, va_A wc H.size q → A0 q := by
  subst hws
  intro q h
  rcases h with ⟨k, e, h⟩ | h
  · have hl := (List.getElem?_eq_some_iff.mp h).1
    refine hD.2 (l1.length + k) (q, e) ?_
    rw [List.append_assoc, List.getElem?_append_right (by omega), Nat.add_sub_cancel_left, List.getElem?_append_left hl]; exact h
  · exact hA q (Nat.le_trans hS.1 h)
theorem xsubP {D : va_G} {ws wc l1 l2 : va_W} {H : Heap} (hws : ws = l1 ++ wc ++ l2) (hP : va_P D vwCl ws H) : va_P D vwCl wc H := by
  subst hws
  intro k q h
  have hl := (List.getElem?_eq_some_iff.mp h).1
  refine hP (l1.length + k) q ?_
  rw [List.append_assoc, List.getElem?_append_right (by omega), Nat.add_sub_cancel_left, List.getElem?_append_left hl]; exact h
theorem xsubD {ws wc l1 l2 : va_W} {A0 : Nat → Prop} (hws : ws = l1 ++ wc ++ l2) (hD : va_D A0 ws) : va_D (fun _ => True) wc := by
  subst hws
  have e2 : ∀ (k : Nat) (q : Nat × va_E), wc[k]? = some q → (l1 ++ wc ++ l2)[l1.length + k]? = some q := fun k q h => by
    have hl := (List.getElem?_eq_some_iff.mp h).1
    rw [List.append_assoc, List.getElem?_append_right (by omega), Nat.add_sub_cancel_left, List.getElem?_append_left hl]; exact h
  exact ⟨fun i j x y hx hy hxy => by
    have := hD.1 _ _ x y (e2 i x hx) (e2 j y hy) hxy
    omega, fun _ _ _ => trivial⟩
section XCL
variable {p : Program} {l : Launch} {e : Env} {R : Room} {s : State} {m : MethodId} {args : Array Value} {below : List Frame} {meth : Method} {c : Code} {cells slots : Nat} {Q : State → Prop}
variable {D : va_G} {A : Nat → Prop} {H0 : Heap} {nL : Nat} {ws : va_W} {pc : Nat} {lv : List (Nat × Value)} {st rest : List Value} {cc : ByteArray} {own : String} {TY : List (ClassId × FieldType)}
abbrev xC2 (p : Program) (s : State) (m : MethodId) (args : Array Value) (meth : Method) (c : Code) (D : va_G) (A : Nat → Prop) (H0 : Heap) (nL : Nat) (cc : ByteArray) (own : String) (TY : List (ClassId × FieldType)) : Prop :=
  xC p s m args meth c D A H0 nL cc WG own TY ∧ (∀ C ∈ [RX5, RX4, RX9], va_AO C s) ∧ ∀ q ∈ xNst, va_Nw (.methodLinkNest q.1 q.2.1 q.2.2.1 q.2.2.2) s
theorem xC2.K (C : xC2 p s m args meth c D A H0 nL cc own TY) : xK D TY s := ⟨C.1.2.2.2.2.2.1, C.2⟩
theorem xC2.fix (C : xC2 p s m args meth c D A H0 nL cc own TY) : CallFix p m c cc nL s args WG own := ⟨C.1.1, C.1.2.1, C.1.2.2.1, C.1.2.2.2.1, C.1.2.2.2.2.1⟩
theorem x_callSi (C : xC2 p s m args meth c D A H0 nL cc own TY) {y : MethodName} {bytes : ByteArray} {maxL fr lo mc ms n index : Nat} {ret : Option FieldType} {As : List Value} {wc : va_W} {S : Type} {w1 : S → va_W} {post : Int → S → Prop} (hM : xMi l D TY y bytes maxL ret fr lo mc ms As wc w1 post) {l1 l2 : va_W} (hws : ws = l1 ++ wc ++ l2) {w2 : S → va_W} (hw2 : ∀ u, l1 ++ w1 u ++ l2 = w2 u) (hst : st = As.reverse ++ rest) (hcode : Cond.code y bytes maxL ret ∈ WG) (hini : Cond.initialized y.cls ∈ WG) (hlink : Cond.methodLink own index y ∈ WG) (hst2 : Cond.static y ∈ WG) (hd2 : y.cls ≠ "java/lang/invoke/MethodHandle" ∧ y.cls ≠ "java/lang/invoke/VarHandle" ∧ (parseMethodDescriptor y.desc).map (fun d => d.parameters.length) = some n) (hn : As.length = n) (hR : fr + 1 ≤ R.frames ∧ 8 + (maxL + 11) + lo ≤ R.locals) (hW : (rest.map fun v => v.category).sum ≤ 8) (hf : cells + mc ≤ R.cells ∧ slots + ms ≤ R.slots) (hdg : decode cc pc = .ok (.invokestatic index, 3)) (kk : ∀ (r : Int) (u : S), R32 r → post r u → xW p l e R s m args below meth c D A H0 nL (cells + mc) (slots + ms) Q (w2 u) (pc + 3) lv (vI r :: rest)) : xW p l e R s m args below meth c D A H0 nL cells slots Q ws pc lv st := by
  subst hst
  intro H locs la hP hD hS hl
  have hF := xfree (D := D) hws hD hS C.1.2.2.2.2.2.2.1
  refine va_calli (va_runS C.fix (hM H.size) ⟨callB_of n C.1.2.2.2.2.1 (WG_good2 _ hcode) rfl rfl rfl (C.1.2.2.2.2.1 _ hini) (C.1.2.2.2.2.1 _ hlink) hd2 hR, C.1.2.2.2.2.1 _ hst2⟩ ⟨xPre.blind, fun U hU hW => ⟨rfl, by rw [hU], by rw [hU]; exact xsubP hws hP, xK.warm hW C.K, xsubD hws hD⟩⟩ rfl hn hl.1 rfl (lv_room hW) hdg hf) hS (fun q _ h => hF q h) hF (fun r u t H1 locs ht hvm hw hB hz1 hk1 hS => ?_)
  obtain ⟨hP1, hD1⟩ := hB
  rw [ht] at hP1
  obtain ⟨hP2, hD2⟩ := xframe hws hP hD hk1 hF hP1 hD1
  rw [hw2] at hP2 hD2
  have := kk r.toInt u (xi_r r) hw H1 locs la hP2 hD2 hS hl
  rw [vI, xi_of] at this
  exact this
theorem x_callSl (C : xC2 p s m args meth c D A H0 nL cc own TY) {y : MethodName} {bytes : ByteArray} {maxL fr lo mc ms n index : Nat} {ret : Option FieldType} {As : List Value} {wc : va_W} {S : Type} {w1 : S → va_W} {post : Int → S → Prop} (hM : xMl l D TY y bytes maxL ret fr lo mc ms As wc w1 post) {l1 l2 : va_W} (hws : ws = l1 ++ wc ++ l2) {w2 : S → va_W} (hw2 : ∀ u, l1 ++ w1 u ++ l2 = w2 u) (hst : st = As.reverse ++ rest) (hcode : Cond.code y bytes maxL ret ∈ WG) (hini : Cond.initialized y.cls ∈ WG) (hlink : Cond.methodLink own index y ∈ WG) (hst2 : Cond.static y ∈ WG) (hd2 : y.cls ≠ "java/lang/invoke/MethodHandle" ∧ y.cls ≠ "java/lang/invoke/VarHandle" ∧ (parseMethodDescriptor y.desc).map (fun d => d.parameters.length) = some n) (hn : As.length = n) (hR : fr + 1 ≤ R.frames ∧ 8 + (maxL + 11) + lo ≤ R.locals) (hW : (rest.map fun v => v.category).sum ≤ 8) (hf : cells + mc ≤ R.cells ∧ slots + ms ≤ R.slots) (hdg : decode cc pc = .ok (.invokestatic index, 3)) (kk : ∀ (r : Int) (u : S), R64 r → post r u → xW p l e R s m args below meth c D A H0 nL (cells + mc) (slots + ms) Q (w2 u) (pc + 3) lv (vJ r :: rest)) : xW p l e R s m args below meth c D A H0 nL cells slots Q ws pc lv st := by
  subst hst
  intro H locs la hP hD hS hl
  have hF := xfree (D := D) hws hD hS C.1.2.2.2.2.2.2.1
  refine va_calll (va_runS C.fix (hM H.size) ⟨callB_of n C.1.2.2.2.2.1 (WG_good2 _ hcode) rfl rfl rfl (C.1.2.2.2.2.1 _ hini) (C.1.2.2.2.2.1 _ hlink) hd2 hR, C.1.2.2.2.2.1 _ hst2⟩ ⟨xPre.blind, fun U hU hW => ⟨rfl, by rw [hU], by rw [hU]; exact xsubP hws hP, xK.warm hW C.K, xsubD hws hD⟩⟩ rfl hn hl.1 rfl (lv_room hW) hdg hf) hS (fun q _ h => hF q h) hF (fun r u t H1 locs ht hvm hw hB hz1 hk1 hS => ?_)
  obtain ⟨hP1, hD1⟩ := hB
  rw [ht] at hP1
  obtain ⟨hP2, hD2⟩ := xframe hws hP hD hk1 hF hP1 hD1
  rw [hw2] at hP2 hD2
  have := kk r.toInt u (xj_r r) hw H1 locs la hP2 hD2 hS hl
  rw [vJ, xj_of] at this
  exact this
theorem x_callSv (C : xC2 p s m args meth c D A H0 nL cc own TY) {y : MethodName} {bytes : ByteArray} {maxL fr lo mc ms n index : Nat} {ret : Option FieldType} {As : List Value} {wc : va_W} {S : Type} {w1 : S → va_W} {post : S → Prop} (hM : xMv l D TY y bytes maxL ret fr lo mc ms As wc w1 post) {l1 l2 : va_W} (hws : ws = l1 ++ wc ++ l2) {w2 : S → va_W} (hw2 : ∀ u, l1 ++ w1 u ++ l2 = w2 u) (hst : st = As.reverse ++ rest) (hcode : Cond.code y bytes maxL ret ∈ WG) (hini : Cond.initialized y.cls ∈ WG) (hlink : Cond.methodLink own index y ∈ WG) (hst2 : Cond.static y ∈ WG) (hd2 : y.cls ≠ "java/lang/invoke/MethodHandle" ∧ y.cls ≠ "java/lang/invoke/VarHandle" ∧ (parseMethodDescriptor y.desc).map (fun d => d.parameters.length) = some n) (hn : As.length = n) (hR : fr + 1 ≤ R.frames ∧ 8 + (maxL + 11) + lo ≤ R.locals) (hW : (rest.map fun v => v.category).sum ≤ 8) (hf : cells + mc ≤ R.cells ∧ slots + ms ≤ R.slots) (hdg : decode cc pc = .ok (.invokestatic index, 3)) (kk : ∀ (u : S), post u → xW p l e R s m args below meth c D A H0 nL (cells + mc) (slots + ms) Q (w2 u) (pc + 3) lv rest) : xW p l e R s m args below meth c D A H0 nL cells slots Q ws pc lv st := by
  subst hst
  intro H locs la hP hD hS hl
  have hF := xfree (D := D) hws hD hS C.1.2.2.2.2.2.2.1
  refine va_callv (va_runS C.fix (hM H.size) ⟨callB_of n C.1.2.2.2.2.1 (WG_good2 _ hcode) rfl rfl rfl (C.1.2.2.2.2.1 _ hini) (C.1.2.2.2.2.1 _ hlink) hd2 hR, C.1.2.2.2.2.1 _ hst2⟩ ⟨xPre.blind, fun U hU hW => ⟨rfl, by rw [hU], by rw [hU]; exact xsubP hws hP, xK.warm hW C.K, xsubD hws hD⟩⟩ rfl hn hl.1 rfl (lv_room hW) hdg hf) hS (fun q _ h => hF q h) hF (fun u t H1 locs ht hvm hw hB hz1 hk1 hS => ?_)
  obtain ⟨hP1, hD1⟩ := hB
  rw [ht] at hP1
  obtain ⟨hP2, hD2⟩ := xframe hws hP hD hk1 hF hP1 hD1
  rw [hw2] at hP2 hD2
  exact kk u hw H1 locs la hP2 hD2 hS hl
theorem x_callVi (C : xC2 p s m args meth c D A H0 nL cc own TY) {y : MethodName} {bytes : ByteArray} {maxL fr lo mc ms n index : Nat} {ret : Option FieldType} {As : List Value} {wc : va_W} {S : Type} {w1 : S → va_W} {post : Int → S → Prop} {b : Nat} {Cn : String} {T : u_T} {NN ci : Nat} {fs : List Value} (q0 : Nat) (he : ws[q0]? = some (b, .inr (ci, fs))) (hcl : vwCl[ci]? = some (Cn, T, NN)) (hM : xMi l D TY y bytes maxL ret fr lo mc ms (.ref b :: As) wc w1 post) {l1 l2 : va_W} (hws : ws = l1 ++ wc ++ l2) {w2 : S → va_W} (hw2 : ∀ u, l1 ++ w1 u ++ l2 = w2 u) (hst : st = As.reverse ++ .ref b :: rest) (hcode : Cond.code y bytes maxL ret ∈ WG) (hini : Cond.initialized y.cls ∈ WG) (hlink : Cond.methodLink own index y ∈ WG) (hst2 : Cond.instanceMethod y ∈ WG) (hsel : Cond.selects Cn y y ∈ WG) (hd2 : y.cls ≠ "java/lang/invoke/MethodHandle" ∧ y.cls ≠ "java/lang/invoke/VarHandle" ∧ (parseMethodDescriptor y.desc).map (fun d => d.parameters.length) = some n) (hn : As.length = n) (hR : fr + 1 ≤ R.frames ∧ 8 + (maxL + 11) + lo ≤ R.locals) (hW : (rest.map fun v => v.category).sum ≤ 8) (hf : cells + mc ≤ R.cells ∧ slots + ms ≤ R.slots) (hdg : decode cc pc = .ok (.invokevirtual index, 3)) (kk : ∀ (r : Int) (u : S), R32 r → post r u → xW p l e R s m args below meth c D A H0 nL (cells + mc) (slots + ms) Q (w2 u) (pc + 3) lv (vI r :: rest)) : xW p l e R s m args below meth c D A H0 nL cells slots Q ws pc lv st := by
  subst hst
  intro H locs la hP hD hS hl
  have hF := xfree (D := D) hws hD hS C.1.2.2.2.2.2.2.1
  refine va_calli (va_runV C.fix (hM H.size) ⟨callB_of n C.1.2.2.2.2.1 (WG_good2 _ hcode) rfl rfl rfl (C.1.2.2.2.2.1 _ hini) (C.1.2.2.2.2.1 _ hlink) hd2 hR, C.1.2.2.2.2.1 _ hst2, C.1.2.2.2.2.1 _ hsel⟩ ⟨xPre.blind, va_recv C.1.2.2.2.2.2.1 hP hcl he, fun U hU hW => ⟨rfl, by rw [hU], by rw [hU]; exact xsubP hws hP, xK.warm hW C.K, xsubD hws hD⟩⟩ rfl hn hl.1 rfl (lv_room hW) hdg hf) hS (fun q _ h => hF q h) hF (fun r u t H1 locs ht hvm hw hB hz1 hk1 hS => ?_)
  obtain ⟨hP1, hD1⟩ := hB
  rw [ht] at hP1
  obtain ⟨hP2, hD2⟩ := xframe hws hP hD hk1 hF hP1 hD1
  rw [hw2] at hP2 hD2
  have := kk r.toInt u (xi_r r) hw H1 locs la hP2 hD2 hS hl
  rw [vI, xi_of] at this
  exact this
theorem x_callVl (C : xC2 p s m args meth c D A H0 nL cc own TY) {y : MethodName} {bytes : ByteArray} {maxL fr lo mc ms n index : Nat} {ret : Option FieldType} {As : List Value} {wc : va_W} {S : Type} {w1 : S → va_W} {post : Int → S → Prop} {b : Nat} {Cn : String} {T : u_T} {NN ci : Nat} {fs : List Value} (q0 : Nat) (he : ws[q0]? = some (b, .inr (ci, fs))) (hcl : vwCl[ci]? = some (Cn, T, NN)) (hM : xMl l D TY y bytes maxL ret fr lo mc ms (.ref b :: As) wc w1 post) {l1 l2 : va_W} (hws : ws = l1 ++ wc ++ l2) {w2 : S → va_W} (hw2 : ∀ u, l1 ++ w1 u ++ l2 = w2 u) (hst : st = As.reverse ++ .ref b :: rest) (hcode : Cond.code y bytes maxL ret ∈ WG) (hini : Cond.initialized y.cls ∈ WG) (hlink : Cond.methodLink own index y ∈ WG) (hst2 : Cond.instanceMethod y ∈ WG) (hsel : Cond.selects Cn y y ∈ WG) (hd2 : y.cls ≠ "java/lang/invoke/MethodHandle" ∧ y.cls ≠ "java/lang/invoke/VarHandle" ∧ (parseMethodDescriptor y.desc).map (fun d => d.parameters.length) = some n) (hn : As.length = n) (hR : fr + 1 ≤ R.frames ∧ 8 + (maxL + 11) + lo ≤ R.locals) (hW : (rest.map fun v => v.category).sum ≤ 8) (hf : cells + mc ≤ R.cells ∧ slots + ms ≤ R.slots) (hdg : decode cc pc = .ok (.invokevirtual index, 3)) (kk : ∀ (r : Int) (u : S), R64 r → post r u → xW p l e R s m args below meth c D A H0 nL (cells + mc) (slots + ms) Q (w2 u) (pc + 3) lv (vJ r :: rest)) : xW p l e R s m args below meth c D A H0 nL cells slots Q ws pc lv st := by
  subst hst
  intro H locs la hP hD hS hl
  have hF := xfree (D := D) hws hD hS C.1.2.2.2.2.2.2.1
  refine va_calll (va_runV C.fix (hM H.size) ⟨callB_of n C.1.2.2.2.2.1 (WG_good2 _ hcode) rfl rfl rfl (C.1.2.2.2.2.1 _ hini) (C.1.2.2.2.2.1 _ hlink) hd2 hR, C.1.2.2.2.2.1 _ hst2, C.1.2.2.2.2.1 _ hsel⟩ ⟨xPre.blind, va_recv C.1.2.2.2.2.2.1 hP hcl he, fun U hU hW => ⟨rfl, by rw [hU], by rw [hU]; exact xsubP hws hP, xK.warm hW C.K, xsubD hws hD⟩⟩ rfl hn hl.1 rfl (lv_room hW) hdg hf) hS (fun q _ h => hF q h) hF (fun r u t H1 locs ht hvm hw hB hz1 hk1 hS => ?_)
  obtain ⟨hP1, hD1⟩ := hB
  rw [ht] at hP1
  obtain ⟨hP2, hD2⟩ := xframe hws hP hD hk1 hF hP1 hD1
  rw [hw2] at hP2 hD2
  have := kk r.toInt u (xj_r r) hw H1 locs la hP2 hD2 hS hl
  rw [vJ, xj_of] at this
  exact this
theorem x_callVv (C : xC2 p s m args meth c D A H0 nL cc own TY) {y : MethodName} {bytes : ByteArray} {maxL fr lo mc ms n index : Nat} {ret : Option FieldType} {As : List Value} {wc : va_W} {S : Type} {w1 : S → va_W} {post : S → Prop} {b : Nat} {Cn : String} {T : u_T} {NN ci : Nat} {fs : List Value} (q0 : Nat) (he : ws[q0]? = some (b, .inr (ci, fs))) (hcl : vwCl[ci]? = some (Cn, T, NN)) (hM : xMv l D TY y bytes maxL ret fr lo mc ms (.ref b :: As) wc w1 post) {l1 l2 : va_W} (hws : ws = l1 ++ wc ++ l2) {w2 : S → va_W} (hw2 : ∀ u, l1 ++ w1 u ++ l2 = w2 u) (hst : st = As.reverse ++ .ref b :: rest) (hcode : Cond.code y bytes maxL ret ∈ WG) (hini : Cond.initialized y.cls ∈ WG) (hlink : Cond.methodLink own index y ∈ WG) (hst2 : Cond.instanceMethod y ∈ WG) (hsel : Cond.selects Cn y y ∈ WG) (hd2 : y.cls ≠ "java/lang/invoke/MethodHandle" ∧ y.cls ≠ "java/lang/invoke/VarHandle" ∧ (parseMethodDescriptor y.desc).map (fun d => d.parameters.length) = some n) (hn : As.length = n) (hR : fr + 1 ≤ R.frames ∧ 8 + (maxL + 11) + lo ≤ R.locals) (hW : (rest.map fun v => v.category).sum ≤ 8) (hf : cells + mc ≤ R.cells ∧ slots + ms ≤ R.slots) (hdg : decode cc pc = .ok (.invokevirtual index, 3)) (kk : ∀ (u : S), post u → xW p l e R s m args below meth c D A H0 nL (cells + mc) (slots + ms) Q (w2 u) (pc + 3) lv rest) : xW p l e R s m args below meth c D A H0 nL cells slots Q ws pc lv st := by
  subst hst
  intro H locs la hP hD hS hl
  have hF := xfree (D := D) hws hD hS C.1.2.2.2.2.2.2.1
  refine va_callv (va_runV C.fix (hM H.size) ⟨callB_of n C.1.2.2.2.2.1 (WG_good2 _ hcode) rfl rfl rfl (C.1.2.2.2.2.1 _ hini) (C.1.2.2.2.2.1 _ hlink) hd2 hR, C.1.2.2.2.2.1 _ hst2, C.1.2.2.2.2.1 _ hsel⟩ ⟨xPre.blind, va_recv C.1.2.2.2.2.2.1 hP hcl he, fun U hU hW => ⟨rfl, by rw [hU], by rw [hU]; exact xsubP hws hP, xK.warm hW C.K, xsubD hws hD⟩⟩ rfl hn hl.1 rfl (lv_room hW) hdg hf) hS (fun q _ h => hF q h) hF (fun u t H1 locs ht hvm hw hB hz1 hk1 hS => ?_)
  obtain ⟨hP1, hD1⟩ := hB
  rw [ht] at hP1
  obtain ⟨hP2, hD2⟩ := xframe hws hP hD hk1 hF hP1 hD1
  rw [hw2] at hP2 hD2
  exact kk u hw H1 locs la hP2 hD2 hS hl
theorem x_callIv (C : xC2 p s m args meth c D A H0 nL cc own TY) {y : MethodName} {bytes : ByteArray} {maxL fr lo mc ms n index : Nat} {As : List Value} {wc : va_W} {S : Type} {w1 : S → va_W} {post : S → Prop} {b : Nat} (hM : xMv l D TY y bytes maxL none fr lo mc ms (.ref b :: As) wc w1 post) {l1 l2 : va_W} (hws : ws = l1 ++ wc ++ l2) {w2 : S → va_W} (hw2 : ∀ u, l1 ++ w1 u ++ l2 = w2 u) (hst : st = As.reverse ++ .ref b :: rest) (hcode : Cond.code y bytes maxL none ∈ WG) (hini : Cond.initialized y.cls ∈ WG) (hlink : Cond.methodLink own index y ∈ WG) (hst2 : Cond.instanceMethod y ∈ WG) (hy1 : y.name = "<init>") (hd2 : y.cls ≠ "java/lang/invoke/MethodHandle" ∧ y.cls ≠ "java/lang/invoke/VarHandle" ∧ (parseMethodDescriptor y.desc).map (fun d => d.parameters.length) = some n) (hn : As.length = n) (hR : fr + 1 ≤ R.frames ∧ 8 + (maxL + 11) + lo ≤ R.locals) (hW : (rest.map fun v => v.category).sum ≤ 8) (hf : cells + mc ≤ R.cells ∧ slots + ms ≤ R.slots) (hdg : decode cc pc = .ok (.invokespecial index, 3)) (kk : ∀ (u : S), post u → xW p l e R s m args below meth c D A H0 nL (cells + mc) (slots + ms) Q (w2 u) (pc + 3) lv rest) : xW p l e R s m args below meth c D A H0 nL cells slots Q ws pc lv st := by
  subst hst
  intro H locs la hP hD hS hl
  have hF := xfree (D := D) hws hD hS C.1.2.2.2.2.2.2.1
  refine va_callv (va_runI C.fix (hM H.size) ⟨callB_of n C.1.2.2.2.2.1 (WG_good2 _ hcode) rfl rfl rfl (C.1.2.2.2.2.1 _ hini) (C.1.2.2.2.2.1 _ hlink) hd2 hR, hy1, C.1.2.2.2.2.1 _ hst2⟩ ⟨xPre.blind, fun U hU hW => ⟨rfl, by rw [hU], by rw [hU]; exact xsubP hws hP, xK.warm hW C.K, xsubD hws hD⟩⟩ rfl hn hl.1 rfl (lv_room hW) hdg hf) hS (fun q _ h => hF q h) hF (fun u t H1 locs ht hvm hw hB hz1 hk1 hS => ?_)
  obtain ⟨hP1, hD1⟩ := hB
  rw [ht] at hP1
  obtain ⟨hP2, hD2⟩ := xframe hws hP hD hk1 hF hP1 hD1
  rw [hw2] at hP2 hD2
  exact kk u hw H1 locs la hP2 hD2 hS hl
theorem x_callSNi (C : xC2 p s m args meth c D A H0 nL cc own TY) {y : MethodName} {bytes : ByteArray} {maxL fr lo mc ms n index : Nat} {ret : Option FieldType} {As : List Value} {wc : va_W} {S : Type} {w1 : S → va_W} {post : Int → S → Prop} {host : String} (hM : xMi l D TY y bytes maxL ret fr lo mc ms As wc w1 post) {l1 l2 : va_W} (hws : ws = l1 ++ wc ++ l2) {w2 : S → va_W} (hw2 : ∀ u, l1 ++ w1 u ++ l2 = w2 u) (hst : st = As.reverse ++ rest) (hcode : Cond.code y bytes maxL ret ∈ WG) (hini : Cond.initialized y.cls ∈ WG) (hlink : (own, index, y, host) ∈ xNst) (hst2 : Cond.static y ∈ WG) (hd2 : y.cls ≠ "java/lang/invoke/MethodHandle" ∧ y.cls ≠ "java/lang/invoke/VarHandle" ∧ (parseMethodDescriptor y.desc).map (fun d => d.parameters.length) = some n) (hn : As.length = n) (hR : fr + 1 ≤ R.frames ∧ 8 + (maxL + 11) + lo ≤ R.locals) (hW : (rest.map fun v => v.category).sum ≤ 8) (hf : cells + mc ≤ R.cells ∧ slots + ms ≤ R.slots) (hdg : decode cc pc = .ok (.invokestatic index, 3)) (kk : ∀ (r : Int) (u : S), R32 r → post r u → xW p l e R s m args below meth c D A H0 nL (cells + mc) (slots + ms) Q (w2 u) (pc + 3) lv (vI r :: rest)) : xW p l e R s m args below meth c D A H0 nL cells slots Q ws pc lv st := by
  subst hst
  intro H locs la hP hD hS hl
  have hF := xfree (D := D) hws hD hS C.1.2.2.2.2.2.2.1
  refine va_calli (va_runSN C.fix (hM H.size) ⟨va_cnB n C.1.2.2.2.2.1 (WG_good2 _ hcode) rfl rfl rfl (C.2.2 _ hlink) (C.1.2.2.2.2.1 _ hini) hd2 hR, C.1.2.2.2.2.1 _ hst2, trivial⟩ ⟨xPre.blind, fun U hU hW => ⟨rfl, by rw [hU], by rw [hU]; exact xsubP hws hP, xK.warm hW C.K, xsubD hws hD⟩⟩ rfl hn hl.1 rfl (lv_room hW) hdg hf) hS (fun q _ h => hF q h) hF (fun r u t H1 locs ht hvm hw hB hz1 hk1 hS => ?_)
  obtain ⟨hP1, hD1⟩ := hB
  rw [ht] at hP1
  obtain ⟨hP2, hD2⟩ := xframe hws hP hD hk1 hF hP1 hD1
  rw [hw2] at hP2 hD2
  have := kk r.toInt u (xi_r r) hw H1 locs la hP2 hD2 hS hl
  rw [vI, xi_of] at this
  exact this
theorem x_callSNl (C : xC2 p s m args meth c D A H0 nL cc own TY) {y : MethodName} {bytes : ByteArray} {maxL fr lo mc ms n index : Nat} {ret : Option FieldType} {As : List Value} {wc : va_W} {S : Type} {w1 : S → va_W} {post : Int → S → Prop} {host : String} (hM : xMl l D TY y bytes maxL ret fr lo mc ms As wc w1 post) {l1 l2 : va_W} (hws : ws = l1 ++ wc ++ l2) {w2 : S → va_W} (hw2 : ∀ u, l1 ++ w1 u ++ l2 = w2 u) (hst : st = As.reverse ++ rest) (hcode : Cond.code y bytes maxL ret ∈ WG) (hini : Cond.initialized y.cls ∈ WG) (hlink : (own, index, y, host) ∈ xNst) (hst2 : Cond.static y ∈ WG) (hd2 : y.cls ≠ "java/lang/invoke/MethodHandle" ∧ y.cls ≠ "java/lang/invoke/VarHandle" ∧ (parseMethodDescriptor y.desc).map (fun d => d.parameters.length) = some n) (hn : As.length = n) (hR : fr + 1 ≤ R.frames ∧ 8 + (maxL + 11) + lo ≤ R.locals) (hW : (rest.map fun v => v.category).sum ≤ 8) (hf : cells + mc ≤ R.cells ∧ slots + ms ≤ R.slots) (hdg : decode cc pc = .ok (.invokestatic index, 3)) (kk : ∀ (r : Int) (u : S), R64 r → post r u → xW p l e R s m args below meth c D A H0 nL (cells + mc) (slots + ms) Q (w2 u) (pc + 3) lv (vJ r :: rest)) : xW p l e R s m args below meth c D A H0 nL cells slots Q ws pc lv st := by
  subst hst
  intro H locs la hP hD hS hl
  have hF := xfree (D := D) hws hD hS C.1.2.2.2.2.2.2.1
  refine va_calll (va_runSN C.fix (hM H.size) ⟨va_cnB n C.1.2.2.2.2.1 (WG_good2 _ hcode) rfl rfl rfl (C.2.2 _ hlink) (C.1.2.2.2.2.1 _ hini) hd2 hR, C.1.2.2.2.2.1 _ hst2, trivial⟩ ⟨xPre.blind, fun U hU hW => ⟨rfl, by rw [hU], by rw [hU]; exact xsubP hws hP, xK.warm hW C.K, xsubD hws hD⟩⟩ rfl hn hl.1 rfl (lv_room hW) hdg hf) hS (fun q _ h => hF q h) hF (fun r u t H1 locs ht hvm hw hB hz1 hk1 hS => ?_)
  obtain ⟨hP1, hD1⟩ := hB
  rw [ht] at hP1
  obtain ⟨hP2, hD2⟩ := xframe hws hP hD hk1 hF hP1 hD1
  rw [hw2] at hP2 hD2
  have := kk r.toInt u (xj_r r) hw H1 locs la hP2 hD2 hS hl
  rw [vJ, xj_of] at this
  exact this
theorem x_callSNv (C : xC2 p s m args meth c D A H0 nL cc own TY) {y : MethodName} {bytes : ByteArray} {maxL fr lo mc ms n index : Nat} {ret : Option FieldType} {As : List Value} {wc : va_W} {S : Type} {w1 : S → va_W} {post : S → Prop} {host : String} (hM : xMv l D TY y bytes maxL ret fr lo mc ms As wc w1 post) {l1 l2 : va_W} (hws : ws = l1 ++ wc ++ l2) {w2 : S → va_W} (hw2 : ∀ u, l1 ++ w1 u ++ l2 = w2 u) (hst : st = As.reverse ++ rest) (hcode : Cond.code y bytes maxL ret ∈ WG) (hini : Cond.initialized y.cls ∈ WG) (hlink : (own, index, y, host) ∈ xNst) (hst2 : Cond.static y ∈ WG) (hd2 : y.cls ≠ "java/lang/invoke/MethodHandle" ∧ y.cls ≠ "java/lang/invoke/VarHandle" ∧ (parseMethodDescriptor y.desc).map (fun d => d.parameters.length) = some n) (hn : As.length = n) (hR : fr + 1 ≤ R.frames ∧ 8 + (maxL + 11) + lo ≤ R.locals) (hW : (rest.map fun v => v.category).sum ≤ 8) (hf : cells + mc ≤ R.cells ∧ slots + ms ≤ R.slots) (hdg : decode cc pc = .ok (.invokestatic index, 3)) (kk : ∀ (u : S), post u → xW p l e R s m args below meth c D A H0 nL (cells + mc) (slots + ms) Q (w2 u) (pc + 3) lv rest) : xW p l e R s m args below meth c D A H0 nL cells slots Q ws pc lv st := by
  subst hst
  intro H locs la hP hD hS hl
  have hF := xfree (D := D) hws hD hS C.1.2.2.2.2.2.2.1
  refine va_callv (va_runSN C.fix (hM H.size) ⟨va_cnB n C.1.2.2.2.2.1 (WG_good2 _ hcode) rfl rfl rfl (C.2.2 _ hlink) (C.1.2.2.2.2.1 _ hini) hd2 hR, C.1.2.2.2.2.1 _ hst2, trivial⟩ ⟨xPre.blind, fun U hU hW => ⟨rfl, by rw [hU], by rw [hU]; exact xsubP hws hP, xK.warm hW C.K, xsubD hws hD⟩⟩ rfl hn hl.1 rfl (lv_room hW) hdg hf) hS (fun q _ h => hF q h) hF (fun u t H1 locs ht hvm hw hB hz1 hk1 hS => ?_)
  obtain ⟨hP1, hD1⟩ := hB
  rw [ht] at hP1
  obtain ⟨hP2, hD2⟩ := xframe hws hP hD hk1 hF hP1 hD1
  rw [hw2] at hP2 hD2
  exact kk u hw H1 locs la hP2 hD2 hS hl
theorem x_callINv (C : xC2 p s m args meth c D A H0 nL cc own TY) {y : MethodName} {bytes : ByteArray} {maxL fr lo mc ms n index : Nat} {As : List Value} {wc : va_W} {S : Type} {w1 : S → va_W} {post : S → Prop} {b : Nat} {host : String} (hM : xMv l D TY y bytes maxL none fr lo mc ms (.ref b :: As) wc w1 post) {l1 l2 : va_W} (hws : ws = l1 ++ wc ++ l2) {w2 : S → va_W} (hw2 : ∀ u, l1 ++ w1 u ++ l2 = w2 u) (hst : st = As.reverse ++ .ref b :: rest) (hcode : Cond.code y bytes maxL none ∈ WG) (hini : Cond.initialized y.cls ∈ WG) (hlink : (own, index, y, host) ∈ xNst) (hst2 : Cond.instanceMethod y ∈ WG) (hy1 : y.name = "<init>") (hd2 : y.cls ≠ "java/lang/invoke/MethodHandle" ∧ y.cls ≠ "java/lang/invoke/VarHandle" ∧ (parseMethodDescriptor y.desc).map (fun d => d.parameters.length) = some n) (hn : As.length = n) (hR : fr + 1 ≤ R.frames ∧ 8 + (maxL + 11) + lo ≤ R.locals) (hW : (rest.map fun v => v.category).sum ≤ 8) (hf : cells + mc ≤ R.cells ∧ slots + ms ≤ R.slots) (hdg : decode cc pc = .ok (.invokespecial index, 3)) (kk : ∀ (u : S), post u → xW p l e R s m args below meth c D A H0 nL (cells + mc) (slots + ms) Q (w2 u) (pc + 3) lv rest) : xW p l e R s m args below meth c D A H0 nL cells slots Q ws pc lv st := by
  subst hst
  intro H locs la hP hD hS hl
  have hF := xfree (D := D) hws hD hS C.1.2.2.2.2.2.2.1
  refine va_callv (va_runIN C.fix (hM H.size) ⟨va_cnB n C.1.2.2.2.2.1 (WG_good2 _ hcode) rfl rfl rfl (C.2.2 _ hlink) (C.1.2.2.2.2.1 _ hini) hd2 hR, hy1, C.1.2.2.2.2.1 _ hst2⟩ ⟨xPre.blind, fun U hU hW => ⟨rfl, by rw [hU], by rw [hU]; exact xsubP hws hP, xK.warm hW C.K, xsubD hws hD⟩⟩ rfl hn hl.1 rfl (lv_room hW) hdg hf) hS (fun q _ h => hF q h) hF (fun u t H1 locs ht hvm hw hB hz1 hk1 hS => ?_)
  obtain ⟨hP1, hD1⟩ := hB
  rw [ht] at hP1
  obtain ⟨hP2, hD2⟩ := xframe hws hP hD hk1 hF hP1 hD1
  rw [hw2] at hP2 hD2
  exact kk u hw H1 locs la hP2 hD2 hS hl
/-- a method's start -/
theorem xMi.mk {y : MethodName} {bytes : ByteArray} {maxL fr lo mc ms : Nat} {ret : Option FieldType} {av : List Value} {wc : va_W} {S : Type} {w1 : S → va_W} {post : Int → S → Prop} {lv0 : List (Nat × Value)} (hy : plainName y.cls = true) (hlv : lv_args 0 av = lv0) (hl : (lg_sl av).length ≤ maxL)
    (body : ∀ (p : Program) (e : Env) (s : State) (m : MethodId) (below : List Frame) (meth : Method) (c : Code) (A : Nat → Prop), xC2 p s m av.toArray meth c D A s.heap maxL bytes y.cls TY → meth.sig.returnType = ret → meth.name = y.name → A = va_A wc s.heap.size → xW p l e ({ frames := fr, cells := mc, slots := ms, locals := lo }) s m av.toArray below meth c D A s.heap maxL 0 0 (MQ below (va_Qi (fun r u => post r.toInt u) (xB D A w1) A) av.toArray s mc ms A) wc 0 lv0 []) : xMi l D TY y bytes maxL ret fr lo mc ms av wc w1 post := by
  intro sz
  refine Met.ofW (cc := bytes) (maxL := maxL) (ret := ret) hy rfl ?_
  intro p e s m args below meth c s₁ B hml hv
  obtain ⟨rfl, hsz, hP, hK, hD0⟩ := hv
  have hts := atoms_spec (ws := Cond.code y bytes maxL ret :: WG) B.pre
  have hown : s.vm.findClass y.cls = some m.cls := findClass_of_methodNamed B.named
  subst hsz
  subst hlv
  rw [lg_entry_eq]
  exact body p e s m below meth c (va_A wc s.heap.size) ⟨⟨B.exec, B.bytes, hml, hown, fun w h => hts w (List.mem_cons_of_mem _ h), hK.1, fun q h => Or.inr h, B.notSynchronized⟩, hK.2⟩ B.returns (name_of_methodNamed B.named B.method).1 rfl s.heap [] _ hP (hD0.self (sz := s.heap.size)) va_S.rf (lv_entry av hl)
theorem xMl.mk {y : MethodName} {bytes : ByteArray} {maxL fr lo mc ms : Nat} {ret : Option FieldType} {av : List Value} {wc : va_W} {S : Type} {w1 : S → va_W} {post : Int → S → Prop} {lv0 : List (Nat × Value)} (hy : plainName y.cls = true) (hlv : lv_args 0 av = lv0) (hl : (lg_sl av).length ≤ maxL)
    (body : ∀ (p : Program) (e : Env) (s : State) (m : MethodId) (below : List Frame) (meth : Method) (c : Code) (A : Nat → Prop), xC2 p s m av.toArray meth c D A s.heap maxL bytes y.cls TY → meth.sig.returnType = ret → meth.name = y.name → A = va_A wc s.heap.size → xW p l e ({ frames := fr, cells := mc, slots := ms, locals := lo }) s m av.toArray below meth c D A s.heap maxL 0 0 (MQ below (va_Ql (fun r u => post r.toInt u) (xB D A w1) A) av.toArray s mc ms A) wc 0 lv0 []) : xMl l D TY y bytes maxL ret fr lo mc ms av wc w1 post := by
  intro sz
  refine Met.ofW (cc := bytes) (maxL := maxL) (ret := ret) hy rfl ?_
  intro p e s m args below meth c s₁ B hml hv
  obtain ⟨rfl, hsz, hP, hK, hD0⟩ := hv
  have hts := atoms_spec (ws := Cond.code y bytes maxL ret :: WG) B.pre
  have hown : s.vm.findClass y.cls = some m.cls := findClass_of_methodNamed B.named
  subst hsz
  subst hlv
  rw [lg_entry_eq]
  exact body p e s m below meth c (va_A wc s.heap.size) ⟨⟨B.exec, B.bytes, hml, hown, fun w h => hts w (List.mem_cons_of_mem _ h), hK.1, fun q h => Or.inr h, B.notSynchronized⟩, hK.2⟩ B.returns (name_of_methodNamed B.named B.method).1 rfl s.heap [] _ hP (hD0.self (sz := s.heap.size)) va_S.rf (lv_entry av hl)
theorem xMv.mk {y : MethodName} {bytes : ByteArray} {maxL fr lo mc ms : Nat} {ret : Option FieldType} {av : List Value} {wc : va_W} {S : Type} {w1 : S → va_W} {post : S → Prop} {lv0 : List (Nat × Value)} (hy : plainName y.cls = true) (hlv : lv_args 0 av = lv0) (hl : (lg_sl av).length ≤ maxL)
    (body : ∀ (p : Program) (e : Env) (s : State) (m : MethodId) (below : List Frame) (meth : Method) (c : Code) (A : Nat → Prop), xC2 p s m av.toArray meth c D A s.heap maxL bytes y.cls TY → meth.sig.returnType = ret → meth.name = y.name → A = va_A wc s.heap.size → xW p l e ({ frames := fr, cells := mc, slots := ms, locals := lo }) s m av.toArray below meth c D A s.heap maxL 0 0 (MQ below (va_Qv (fun u => post u) (xB D A w1) A) av.toArray s mc ms A) wc 0 lv0 []) : xMv l D TY y bytes maxL ret fr lo mc ms av wc w1 post := by
  intro sz
  refine Met.ofW (cc := bytes) (maxL := maxL) (ret := ret) hy rfl ?_
  intro p e s m args below meth c s₁ B hml hv
  obtain ⟨rfl, hsz, hP, hK, hD0⟩ := hv
  have hts := atoms_spec (ws := Cond.code y bytes maxL ret :: WG) B.pre
  have hown : s.vm.findClass y.cls = some m.cls := findClass_of_methodNamed B.named
  subst hsz
  subst hlv
  rw [lg_entry_eq]
  exact body p e s m below meth c (va_A wc s.heap.size) ⟨⟨B.exec, B.bytes, hml, hown, fun w h => hts w (List.mem_cons_of_mem _ h), hK.1, fun q h => Or.inr h, B.notSynchronized⟩, hK.2⟩ B.returns (name_of_methodNamed B.named B.method).1 rfl s.heap [] _ hP (hD0.self (sz := s.heap.size)) va_S.rf (lv_entry av hl)
/-- a method's ends -/
theorem x_iret {S : Type} {w1 : S → va_W} {post : Int → S → Prop} {a : Int} (C : xC2 p s m args meth c D A H0 nL cc own TY) (hr : meth.sig.returnType = some .int) (hH : H0 = s.heap) (hd : decode cc pc = .ok (.ireturn, 1)) (ha : R32 a) (u : S) (hw : ws = w1 u) (hp : post a u) : xW p l e R s m args below meth c D A H0 nL cells slots (MQ below (va_Qi (fun r u => post r.toInt u) (xB D A w1) A) args s cells slots A) ws pc lv [vI a] := by
  subst hw; subst hH
  intro H locs la hP hD hS hl
  exact W.iret C.1.1 C.1.2.1 hr (fun t ht hW => ⟨⟨Int32.ofInt a, u, rfl, by show post (Int32.ofInt a).toInt u; rw [xi_toInt ha]; exact hp, by rw [ht]; exact hP, hD⟩, hS.F ht⟩) hS.2.2 hd C.1.2.2.2.2.2.2.2
theorem x_zret {S : Type} {w1 : S → va_W} {post : Int → S → Prop} {a : Int} (C : xC2 p s m args meth c D A H0 nL cc own TY) (hr : meth.sig.returnType = some .boolean) (hH : H0 = s.heap) (hd : decode cc pc = .ok (.ireturn, 1)) (ha : a = 0 ∨ a = 1) (u : S) (hw : ws = w1 u) (hp : post a u) : xW p l e R s m args below meth c D A H0 nL cells slots (MQ below (va_Qi (fun r u => post r.toInt u) (xB D A w1) A) args s cells slots A) ws pc lv [vI a] := by
  subst hw; subst hH
  intro H locs la hP hD hS hl
  refine W.zret C.1.1 C.1.2.1 hr ?_ (fun t ht hW => ⟨⟨Int32.ofInt a, u, rfl, by show post (Int32.ofInt a).toInt u; rw [xi_toInt (by omega)]; exact hp, by rw [ht]; exact hP, hD⟩, hS.F ht⟩) hS.2.2 hd C.1.2.2.2.2.2.2.2
  rcases ha with rfl | rfl <;> decide
theorem x_lret {S : Type} {w1 : S → va_W} {post : Int → S → Prop} {a : Int} (C : xC2 p s m args meth c D A H0 nL cc own TY) (hr : meth.sig.returnType = some .long) (hH : H0 = s.heap) (hd : decode cc pc = .ok (.lreturn, 1)) (ha : R64 a) (u : S) (hw : ws = w1 u) (hp : post a u) : xW p l e R s m args below meth c D A H0 nL cells slots (MQ below (va_Ql (fun r u => post r.toInt u) (xB D A w1) A) args s cells slots A) ws pc lv [vJ a] := by
  subst hw; subst hH
  intro H locs la hP hD hS hl
  exact W.lret C.1.1 C.1.2.1 hr (fun t ht hW => ⟨⟨Int64.ofInt a, u, rfl, by show post (Int64.ofInt a).toInt u; rw [xj_toInt ha]; exact hp, by rw [ht]; exact hP, hD⟩, hS.F ht⟩) hS.2.2 hd C.1.2.2.2.2.2.2.2
theorem x_vret {S : Type} {w1 : S → va_W} {post : S → Prop} (C : xC2 p s m args meth c D A H0 nL cc own TY) (hr : meth.sig.returnType = none) (hH : H0 = s.heap) (hd : decode cc pc = .ok (.return_, 1)) (u : S) (hw : ws = w1 u) (hp : post u) : xW p l e R s m args below meth c D A H0 nL cells slots (MQ below (va_Qv (fun u => post u) (xB D A w1) A) args s cells slots A) ws pc lv [] := by
  subst hw; subst hH
  intro H locs la hP hD hS hl
  exact W.vret C.1.1 C.1.2.1 hr (fun t ht hW => ⟨⟨u, rfl, hp, by rw [ht]; exact hP, hD⟩, hS.F ht⟩) hS.2.2 hd C.1.2.2.2.2.2.2.2
theorem x_widen {k n : Nat} (h1 : cells ≤ k) (h2 : slots ≤ n) (kk : xW p l e R s m args below meth c D A H0 nL k n Q ws pc lv st) : xW p l e R s m args below meth c D A H0 nL cells slots Q ws pc lv st := fun H locs la hP hD hS hl => W.widen h1 h2 (kk H locs la hP hD hS hl)
end XCL
