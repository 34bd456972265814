-- contracts that know the String constants
theorem wf_J0_38 : Cond.fieldLink RJ0 38 "java/lang/String" "COMPACT_STRINGS" "Z" ∈ WG := tch_23 (List.mem_of_getElem? (i := 7) rfl) rfl
theorem wf_J0_15 : Cond.fieldLink RJ0 15 "java/lang/String" "coder" "B" ∈ WG := tch_73 (List.mem_of_getElem? (i := 21) rfl) rfl
theorem wf_J0_9 : Cond.fieldLink RJ0 9 "java/lang/String" "value" "[B" ∈ WG := tch_73 (List.mem_of_getElem? (i := 22) rfl) rfl
abbrev zLen : List Nat := [4, 13, 1]
abbrev zByt : List (List Int32) := [[101, 104, 99, 98], [100, 119, 108, 111, 102, 115, 121, 122, 112, 116, 110, 97, 113], [103]]
def zE (aK aV : Nat → Nat) (A : Nat → Prop) (U : State) (H : Heap) : Prop := vk_S 3 zLen zByt aK aV A U H ∧ va_Z "java/lang/String" "COMPACT_STRINGS" "Z" (.int 1) A U H ∧ vk_R RX1 45 "ehcb" (aK 0) U ∧ vk_R RX6 127 "dwlofsyzptnaq" (aK 1) U ∧ vk_R RX1 55 "g" (aK 2) U
theorem zE.go {aK aV : Nat → Nat} {A B : Nat → Prop} {s U : State} {H0 H1 : Heap} (h : zE aK aV A s H0) (hq : ∀ a : Nat, a < H0.size → ¬ A a → H1[a]? = H0[a]?) (hAB : ∀ q, B q → A q) (hW : s.WarmedH U.vm) : zE aK aV B U H1 :=
  ⟨((h.1.kept hq).narrow hAB).moved hW.alike, ((h.2.1.kept hq).narrow hAB).moved hW.alike, h.2.2.1.warm hW, h.2.2.2.1.warm hW, h.2.2.2.2.warm hW⟩
theorem zE.call {aK aV : Nat → Nat} {A : Nat → Prop} {U : State} (g : JFrame) (mk : MethodId) (a : Array Value) (h : zE aK aV A U U.heap) : zE aK aV A (U.calling g mk a) (U.calling g mk a).heap :=
  ⟨vk_S.moved (u := U) (U := U.calling g mk a) (Vm.Alike.refl U.vm) h.1, va_Z.moved (u := U) (U := U.calling g mk a) (Vm.Alike.refl U.vm) h.2.1, vk_R.same (u := U) (U := U.calling g mk a) rfl h.2.2.1, vk_R.same (u := U) (U := U.calling g mk a) rfl h.2.2.2.1, vk_R.same (u := U) (U := U.calling g mk a) rfl h.2.2.2.2⟩
def zPreS (D : va_G) (TY : List (ClassId × FieldType)) (aK aV : Nat → Nat) (wc : va_W) (sz : Nat) (U : State) : Prop := xPre D TY wc sz U ∧ zE aK aV (va_A wc sz) U U.heap
theorem zPreS.blind {D : va_G} {TY : List (ClassId × FieldType)} {aK aV : Nat → Nat} {wc : va_W} {sz : Nat} {av : List Value} : FrameBlind (va_Pc av (zPreS D TY aK aV wc sz)) := fun a U g mk h => ⟨h.1, ⟨h.2.1.1, h.2.1.2.1, xK.call g mk a h.2.1.2.2.1, h.2.1.2.2.2⟩, zE.call g mk a h.2.2⟩
def zMiS (l : Launch) (D : va_G) (TY : List (ClassId × FieldType)) (aK aV : Nat → Nat) (y : MethodName) (cc : ByteArray) (maxL : Nat) (ret : Option FieldType) (fr lo mc ms : Nat) (av : List Value) (wc : va_W) {S : Type} (w1 : S → va_W) (post : Int → S → Prop) : Prop := ∀ sz : Nat, Met l y (Cond.code y cc maxL ret :: WG) ({ frames := fr, cells := mc, slots := ms, locals := lo }) (va_Pc av (zPreS D TY aK aV wc sz)) (va_Qi (fun r u => post r.toInt u) (xB D (va_A wc sz) w1) (va_A wc sz)) mc ms (va_A wc sz)
section XSL
variable {p : Program} {l : Launch} {e : Env} {R : Room} {s : State} {m : MethodId} {args : Array Value} {below : List Frame} {meth : Method} {c : Code} {cells slots : Nat} {Q : State → Prop}
variable {D : va_G} {A : Nat → Prop} {nL : Nat} {ws : va_W} {pc : Nat} {lv : List (Nat × Value)} {st rest : List Value} {cc : ByteArray} {own : String} {TY : List (ClassId × FieldType)} {aK aV : Nat → Nat}
theorem x_callSiS (C : xC2 p s m args meth c D A s.heap nL cc own TY) (hE : zE aK aV A s s.heap) {y : MethodName} {bytes : ByteArray} {maxL fr lo mc ms n index : Nat} {ret : Option FieldType} {As : List Value} {wc : va_W} {S : Type} {w1 : S → va_W} {post : Int → S → Prop} (hM : zMiS l D TY aK aV y bytes maxL ret fr lo mc ms As wc w1 post) {l1 l2 : va_W} (hws : ws = l1 ++ wc ++ l2) {w2 : S → va_W} (hw2 : ∀ u, l1 ++ w1 u ++ l2 = w2 u) (hst : st = As.reverse ++ rest) (hcode : Cond.code y bytes maxL ret ∈ WG) (hini : Cond.initialized y.cls ∈ WG) (hlink : Cond.methodLink own index y ∈ WG) (hst2 : Cond.static y ∈ WG) (hd2 : y.cls ≠ "java/lang/invoke/MethodHandle" ∧ y.cls ≠ "java/lang/invoke/VarHandle" ∧ (parseMethodDescriptor y.desc).map (fun d => d.parameters.length) = some n) (hn : As.length = n) (hR : fr + 1 ≤ R.frames ∧ 8 + (maxL + 11) + lo ≤ R.locals) (hW : (rest.map fun v => v.category).sum ≤ 8) (hf : cells + mc ≤ R.cells ∧ slots + ms ≤ R.slots) (hdg : decode cc pc = .ok (.invokestatic index, 3)) (kk : ∀ (r : Int) (u : S), R32 r → post r u → xW p l e R s m args below meth c D A s.heap nL (cells + mc) (slots + ms) Q (w2 u) (pc + 3) lv (vI r :: rest)) : xW p l e R s m args below meth c D A s.heap nL cells slots Q ws pc lv st := by
  subst hst
  intro H locs la hP hD hS hl
  have hF := xfree (D := D) hws hD hS C.1.2.2.2.2.2.2.1
  refine va_calli (va_runS C.fix (hM H.size) ⟨callB_of n C.1.2.2.2.2.1 (WG_good2 _ hcode) rfl rfl rfl (C.1.2.2.2.2.1 _ hini) (C.1.2.2.2.2.1 _ hlink) hd2 hR, C.1.2.2.2.2.1 _ hst2⟩ ⟨zPreS.blind, fun U hU hW => ⟨rfl, ⟨by rw [hU], by rw [hU]; exact xsubP hws hP, xK.warm hW C.K, xsubD hws hD⟩, by rw [hU]; exact zE.go hE hS.2.1 hF hW⟩⟩ rfl hn hl.1 rfl (lv_room hW) hdg hf) hS (fun q _ h => hF q h) hF (fun r u t H1 locs ht hvm hw hB hz1 hk1 hS => ?_)
  obtain ⟨hP1, hD1⟩ := hB
  rw [ht] at hP1
  obtain ⟨hP2, hD2⟩ := xframe hws hP hD hk1 hF hP1 hD1
  rw [hw2] at hP2 hD2
  have := kk r.toInt u (xi_r r) hw H1 locs la hP2 hD2 hS hl
  rw [vI, xi_of] at this
  exact this
theorem x_callViS (C : xC2 p s m args meth c D A s.heap nL cc own TY) (hE : zE aK aV A s s.heap) {y : MethodName} {bytes : ByteArray} {maxL fr lo mc ms n index : Nat} {ret : Option FieldType} {As : List Value} {wc : va_W} {S : Type} {w1 : S → va_W} {post : Int → S → Prop} {b : Nat} {Cn : String} {T : u_T} {NN ci : Nat} {fs : List Value} (q0 : Nat) (he : ws[q0]? = some (b, .inr (ci, fs))) (hcl : vwCl[ci]? = some (Cn, T, NN)) (hM : zMiS l D TY aK aV y bytes maxL ret fr lo mc ms (.ref b :: As) wc w1 post) {l1 l2 : va_W} (hws : ws = l1 ++ wc ++ l2) {w2 : S → va_W} (hw2 : ∀ u, l1 ++ w1 u ++ l2 = w2 u) (hst : st = As.reverse ++ .ref b :: rest) (hcode : Cond.code y bytes maxL ret ∈ WG) (hini : Cond.initialized y.cls ∈ WG) (hlink : Cond.methodLink own index y ∈ WG) (hst2 : Cond.instanceMethod y ∈ WG) (hsel : Cond.selects Cn y y ∈ WG) (hd2 : y.cls ≠ "java/lang/invoke/MethodHandle" ∧ y.cls ≠ "java/lang/invoke/VarHandle" ∧ (parseMethodDescriptor y.desc).map (fun d => d.parameters.length) = some n) (hn : As.length = n) (hR : fr + 1 ≤ R.frames ∧ 8 + (maxL + 11) + lo ≤ R.locals) (hW : (rest.map fun v => v.category).sum ≤ 8) (hf : cells + mc ≤ R.cells ∧ slots + ms ≤ R.slots) (hdg : decode cc pc = .ok (.invokevirtual index, 3)) (kk : ∀ (r : Int) (u : S), R32 r → post r u → xW p l e R s m args below meth c D A s.heap nL (cells + mc) (slots + ms) Q (w2 u) (pc + 3) lv (vI r :: rest)) : xW p l e R s m args below meth c D A s.heap nL cells slots Q ws pc lv st := by
  subst hst
  intro H locs la hP hD hS hl
  have hF := xfree (D := D) hws hD hS C.1.2.2.2.2.2.2.1
  refine va_calli (va_runV C.fix (hM H.size) ⟨callB_of n C.1.2.2.2.2.1 (WG_good2 _ hcode) rfl rfl rfl (C.1.2.2.2.2.1 _ hini) (C.1.2.2.2.2.1 _ hlink) hd2 hR, C.1.2.2.2.2.1 _ hst2, C.1.2.2.2.2.1 _ hsel⟩ ⟨zPreS.blind, va_recv C.1.2.2.2.2.2.1 hP hcl he, fun U hU hW => ⟨rfl, ⟨by rw [hU], by rw [hU]; exact xsubP hws hP, xK.warm hW C.K, xsubD hws hD⟩, by rw [hU]; exact zE.go hE hS.2.1 hF hW⟩⟩ rfl hn hl.1 rfl (lv_room hW) hdg hf) hS (fun q _ h => hF q h) hF (fun r u t H1 locs ht hvm hw hB hz1 hk1 hS => ?_)
  obtain ⟨hP1, hD1⟩ := hB
  rw [ht] at hP1
  obtain ⟨hP2, hD2⟩ := xframe hws hP hD hk1 hF hP1 hD1
  rw [hw2] at hP2 hD2
  have := kk r.toInt u (xi_r r) hw H1 locs la hP2 hD2 hS hl
  rw [vI, xi_of] at this
  exact this
theorem x_callJiS (C : xC2 p s m args meth c D A s.heap nL cc own TY) (hE : zE aK aV A s s.heap) {y : MethodName} {bytes : ByteArray} {maxL fr lo mc ms n index : Nat} {ret : Option FieldType} {As : List Value} {wc : va_W} {S : Type} {w1 : S → va_W} {post : Int → S → Prop} {i : Nat} (hi : i < 3) (hM : zMiS l D TY aK aV y bytes maxL ret fr lo mc ms (.ref (aK i) :: As) wc w1 post) {l1 l2 : va_W} (hws : ws = l1 ++ wc ++ l2) {w2 : S → va_W} (hw2 : ∀ u, l1 ++ w1 u ++ l2 = w2 u) (hst : st = As.reverse ++ .ref (aK i) :: rest) (hcode : Cond.code y bytes maxL ret ∈ WG) (hini : Cond.initialized y.cls ∈ WG) (hlink : Cond.methodLink own index y ∈ WG) (hst2 : Cond.instanceMethod y ∈ WG) (hsel : Cond.selects "java/lang/String" y y ∈ WG) (hd2 : y.cls ≠ "java/lang/invoke/MethodHandle" ∧ y.cls ≠ "java/lang/invoke/VarHandle" ∧ (parseMethodDescriptor y.desc).map (fun d => d.parameters.length) = some n) (hn : As.length = n) (hR : fr + 1 ≤ R.frames ∧ 8 + (maxL + 11) + lo ≤ R.locals) (hW : (rest.map fun v => v.category).sum ≤ 8) (hf : cells + mc ≤ R.cells ∧ slots + ms ≤ R.slots) (hdg : decode cc pc = .ok (.invokevirtual index, 3)) (kk : ∀ (r : Int) (u : S), R32 r → post r u → xW p l e R s m args below meth c D A s.heap nL (cells + mc) (slots + ms) Q (w2 u) (pc + 3) lv (vI r :: rest)) : xW p l e R s m args below meth c D A s.heap nL cells slots Q ws pc lv st := by
  subst hst
  intro H locs la hP hD hS hl
  have hF := xfree (D := D) hws hD hS C.1.2.2.2.2.2.2.1
  refine va_calli (va_runV C.fix (hM H.size) ⟨callB_of n C.1.2.2.2.2.1 (WG_good2 _ hcode) rfl rfl rfl (C.1.2.2.2.2.1 _ hini) (C.1.2.2.2.2.1 _ hlink) hd2 hR, C.1.2.2.2.2.1 _ hst2, C.1.2.2.2.2.1 _ hsel⟩ ⟨zPreS.blind, vk_recv hE.1 hi hS, fun U hU hW => ⟨rfl, ⟨by rw [hU], by rw [hU]; exact xsubP hws hP, xK.warm hW C.K, xsubD hws hD⟩, by rw [hU]; exact zE.go hE hS.2.1 hF hW⟩⟩ rfl hn hl.1 rfl (lv_room hW) hdg hf) hS (fun q _ h => hF q h) hF (fun r u t H1 locs ht hvm hw hB hz1 hk1 hS => ?_)
  obtain ⟨hP1, hD1⟩ := hB
  rw [ht] at hP1
  obtain ⟨hP2, hD2⟩ := xframe hws hP hD hk1 hF hP1 hD1
  rw [hw2] at hP2 hD2
  have := kk r.toInt u (xi_r r) hw H1 locs la hP2 hD2 hS hl
  rw [vI, xi_of] at this
  exact this
theorem zMiS.mk {y : MethodName} {bytes : ByteArray} {maxL fr lo mc ms : Nat} {ret : Option FieldType} {av : List Value} {wc : va_W} {S : Type} {w1 : S → va_W} {post : Int → S → Prop} {lv0 : List (Nat × Value)} (hy : plainName y.cls = true) (hlv : lv_args 0 av = lv0) (hl : (lg_sl av).length ≤ maxL)
    (body : ∀ (p : Program) (e : Env) (s : State) (m : MethodId) (below : List Frame) (meth : Method) (c : Code) (A : Nat → Prop), xC2 p s m av.toArray meth c D A s.heap maxL bytes y.cls TY → meth.sig.returnType = ret → meth.name = y.name → A = va_A wc s.heap.size → zE aK aV A s s.heap → xW p l e ({ frames := fr, cells := mc, slots := ms, locals := lo }) s m av.toArray below meth c D A s.heap maxL 0 0 (MQ below (va_Qi (fun r u => post r.toInt u) (xB D A w1) A) av.toArray s mc ms A) wc 0 lv0 []) : zMiS l D TY aK aV y bytes maxL ret fr lo mc ms av wc w1 post := by
  intro sz
  refine Met.ofW (cc := bytes) (maxL := maxL) (ret := ret) hy rfl ?_
  intro p e s m args below meth c s₁ B hml hv
  obtain ⟨rfl, ⟨hsz, hP, hK, hD0⟩, hE⟩ := hv
  have hts := atoms_spec (ws := Cond.code y bytes maxL ret :: WG) B.pre
  have hown : s.vm.findClass y.cls = some m.cls := findClass_of_methodNamed B.named
  subst hsz
  subst hlv
  rw [lg_entry_eq]
  exact body p e s m below meth c (va_A wc s.heap.size) ⟨⟨B.exec, B.bytes, hml, hown, fun w h => hts w (List.mem_cons_of_mem _ h), hK.1, fun q h => Or.inr h, B.notSynchronized⟩, hK.2⟩ B.returns (name_of_methodNamed B.named B.method).1 rfl hE s.heap [] _ hP (hD0.self (sz := s.heap.size)) va_S.rf (lv_entry av hl)
theorem x_ldcS (C : xC2 p s m args meth c D A s.heap nL cc own TY) {tx : String} {index q : Nat} (hZ : vk_R own index tx q s) (hd : decode cc pc = .ok (.ldc index, 2)) (k : xW p l e R s m args below meth c D A s.heap nL cells slots Q ws (pc + 2) lv (.ref q :: st)) : xW p l e R s m args below meth c D A s.heap nL cells slots Q ws pc lv st :=
  fun H locs la hP hD hS hl => va_ldcS C.1.1 C.1.2.1 C.1.2.2.2.1 hZ hd (k H locs la hP hD hS hl)
theorem x_fval (C : xC2 p s m args meth c D A s.heap nL cc RJ0 TY) (hE : zE aK aV A s s.heap) {i : Nat} (hi : i < 3) (hd : decode cc pc = .ok (.getfield 9, 3)) (k : xW p l e R s m args below meth c D A s.heap nL cells slots Q ws (pc + 3) lv (.ref (aV i) :: st)) : xW p l e R s m args below meth c D A s.heap nL cells slots Q ws pc lv (.ref (aK i) :: st) :=
  fun H locs la hP hD hS hl => vk_getf C.1.1 C.1.2.1 (hE.1.1 i hi).2.2.1 hS C.1.2.2.2.1 (C.1.2.2.2.2.1 _ wf_J0_9) (fun _ h => h) hd (k H locs la hP hD hS hl)
theorem x_fcod (C : xC2 p s m args meth c D A s.heap nL cc RJ0 TY) (hE : zE aK aV A s s.heap) {i : Nat} (hi : i < 3) (hd : decode cc pc = .ok (.getfield 15, 3)) (k : xW p l e R s m args below meth c D A s.heap nL cells slots Q ws (pc + 3) lv (vI 0 :: st)) : xW p l e R s m args below meth c D A s.heap nL cells slots Q ws pc lv (.ref (aK i) :: st) :=
  fun H locs la hP hD hS hl => vk_getf C.1.1 C.1.2.1 (hE.1.1 i hi).2.1 hS C.1.2.2.2.1 (C.1.2.2.2.2.1 _ wf_J0_15) (fun _ h => h) hd (k H locs la hP hD hS hl)
theorem x_zcom (C : xC2 p s m args meth c D A s.heap nL cc RJ0 TY) (hE : zE aK aV A s s.heap) (hd : decode cc pc = .ok (.getstatic 38, 3)) (k : xW p l e R s m args below meth c D A s.heap nL cells slots Q ws (pc + 3) lv (vI 1 :: st)) : xW p l e R s m args below meth c D A s.heap nL cells slots Q ws pc lv st :=
  fun H locs la hP hD hS hl => va_gets C.1.1 C.1.2.1 hE.2.1 hS C.1.2.2.2.1 (C.1.2.2.2.2.1 _ wf_J0_38) (fun _ h => h) hd (k H locs la hP hD hS hl)
def zsl (i : Nat) : Int := ((zLen.getD i 0 : Nat) : Int)
theorem zsl_b {i : Nat} (hi : i < 3) : 1 ≤ zsl i ∧ zsl i ≤ 13 := by
  have : i = 0 ∨ i = 1 ∨ i = 2 := by omega
  rcases this with rfl | rfl | rfl <;> decide
theorem zsl_v {i : Nat} (hi : i < 3) : Int32.ofNat (zLen.getD i 0) = Int32.ofInt (zsl i) := by
  have : i = 0 ∨ i = 1 ∨ i = 2 := by omega
  rcases this with rfl | rfl | rfl <;> decide
def zsb (i : Nat) (q : Int) : Int := ((zByt.getD i []).getD q.toNat 0).toInt
theorem x_tlenS (C : xC2 p s m args meth c D A s.heap nL cc own TY) (hE : zE aK aV A s s.heap) {i : Nat} (hi : i < 3) (hd : decode cc pc = .ok (.arraylength, 1)) (k : xW p l e R s m args below meth c D A s.heap nL cells slots Q ws (pc + 1) lv (vI (zsl i) :: st)) : xW p l e R s m args below meth c D A s.heap nL cells slots Q ws pc lv (.ref (aV i) :: st) :=
  fun H locs la hP hD hS hl => va_tlen C.1.1 C.1.2.1 (hE.1.1 i hi).2.2.2 hS (zsl_v hi) hd (k H locs la hP hD hS hl)
theorem x_tbS (C : xC2 p s m args meth c D A s.heap nL cc own TY) (hE : zE aK aV A s s.heap) {i : Nat} (hi : i < 3) {q : Int} (hq : 0 ≤ q ∧ q < zsl i) (hd : decode cc pc = .ok (.baload, 1)) (k : ∀ z : Int, R32 z → z = zsb i q → xW p l e R s m args below meth c D A s.heap nL cells slots Q ws (pc + 1) lv (vI z :: st)) : xW p l e R s m args below meth c D A s.heap nL cells slots Q ws pc lv (vI q :: .ref (aV i) :: st) := by
  intro H locs la hP hD hS hl
  have hb := zsl_b hi
  have k2 := k _ (xi_r _) rfl H locs la hP hD hS hl
  simp only [vI, zsb, xi_of] at k2
  refine va_tb C.1.1 C.1.2.1 (hE.1.1 i hi).2.2.2 hS (xi_in (a := q) hq (by have := hb.2; unfold zsl at this; omega)) ?_ hd k2
  show Value.int _ = _
  rw [xi_nat ⟨by omega, by omega⟩]
theorem x_bret {S : Type} {w1 : S → va_W} {post : Int → S → Prop} {a : Int} (C : xC2 p s m args meth c D A s.heap nL cc own TY) (hr : meth.sig.returnType = some .byte) (hd : decode cc pc = .ok (.ireturn, 1)) (ha : a = 0) (u : S) (hw : ws = w1 u) (hp : post a u) : xW p l e R s m args below meth c D A s.heap nL cells slots (MQ below (va_Qi (fun r u => post r.toInt u) (xB D A w1) A) args s cells slots A) ws pc lv [vI a] := by
  subst hw; subst ha
  intro H locs la hP hD hS hl
  refine W.zret C.1.1 C.1.2.1 hr rfl (fun t ht hW => ⟨⟨Int32.ofInt 0, u, rfl, hp, by rw [ht]; exact hP, hD⟩, hS.F ht⟩) hS.2.2 hd C.1.2.2.2.2.2.2.2
end XSL
