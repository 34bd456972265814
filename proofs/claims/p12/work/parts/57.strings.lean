section
-- contracts that know the String constants
theorem wf_J0_38 : Cond.fieldLink RJ0 38 "java/lang/String" "COMPACT_STRINGS" "Z" ∈ WG := tch_23 (List.mem_of_getElem? (i := 7) rfl) rfl
theorem wf_J0_15 : Cond.fieldLink RJ0 15 "java/lang/String" "coder" "B" ∈ WG := tch_73 (List.mem_of_getElem? (i := 21) rfl) rfl
theorem wf_J0_9 : Cond.fieldLink RJ0 9 "java/lang/String" "value" "[B" ∈ WG := tch_73 (List.mem_of_getElem? (i := 22) rfl) rfl
abbrev zLen : List Nat := [4, 13, 1]
abbrev zByt : List (List Int32) := [[101, 104, 99, 98], [100, 119, 108, 111, 102, 115, 121, 122, 112, 116, 110, 97, 113], [103]]
def zE (aK aV : Nat → Nat) (A : Nat → Prop) (U : State) (H : Heap) : Prop := vk_S 3 zLen zByt aK aV A U H ∧ va_Z "java/lang/String" "COMPACT_STRINGS" "Z" (.int 1) A U H ∧ vk_R RX1 45 "ehcb" (aK 0) U ∧ vk_R RX6 127 "dwlofsyzptnaq" (aK 1) U ∧ vk_R RX1 55 "g" (aK 2) U
theorem zE.go {aK aV : Nat → Nat} {A B : Nat → Prop} {s U : State} {H0 H1 : Heap} (h : zE aK aV A s H0) (hq : ∀ a : Nat, a < H0.size → ¬ A a → H1[a]? = H0[a]?) (hAB : ∀ q, B q → A q) (hW : s.WarmedH U.vm) : zE aK aV B U H1 :=
  ⟨((h.1.kept hq).narrow hAB).moved hW.alike, ((h.2.1.kept hq).narrow hAB).moved hW.alike, h.2.2.1.warm hW, h.2.2.2.1.warm hW, h.2.2.2.2.warm hW⟩
theorem zE.call {aK aV : Nat → Nat} {A : Nat → Prop} {U : State} (g : JFrame) (mk : MethodId) (a : Array Value) (h : zE aK aV A U U.heap) : zE aK aV A (U.calling g mk a) (U.calling g mk a).heap :=
  ⟨vk_S.moved (u := U) (U := U.calling g mk a) (Vm.Alike.refl U.vm) h.1, va_Z.moved (u := U) (U := U.calling g mk a) (Vm.Alike.refl U.vm) h.2.1, vk_R.same (u := U) (U := U.calling g mk a) rfl h.2.2.1, vk_R.same (u := U) (U := U.calling g mk a) rfl h.2.2.2.1, vk_R.same (u := U) (U := U.calling g mk a) rfl h.2.2.2.2⟩
def zPreS (D : va_G) (TY : List (ClassId × FieldType)) (aK aV : Nat → Nat) (wc : va_W) (sz : Nat) (U : State) : Prop := xPre D TY wc sz U ∧ zE aK aV (va_A wc sz) U U.heap
theorem zPreS.blind {D : va_G} {TY : List (ClassId × FieldType)} {aK aV : Nat → Nat} {wc : va_W} {sz : Nat} {av : List Value} : FrameBlind (va_Pc av (zPreS D TY aK aV wc sz)) := fun a U g mk h => ⟨h.1, ⟨h.2.1.1, h.2.1.2.1, xK.call g mk a h.2.1.2.2.1, h.2.1.2.2.2⟩, zE.call g mk a h.2.2⟩
def zMiS (l : Launch) (D : va_G) (TY : List (ClassId × FieldType)) (aK aV : Nat → Nat) (y : MethodName) (cc : ByteArray) (maxL : Nat) (ret : Option FieldType) (fr lo mc ms : Nat) (av : List Value) (wc : va_W) {S : Type} (w1 : S → va_W) (post : Int → S → Prop) : Prop := ∀ sz : Nat, Met l y (Cond.code y cc maxL ret :: WG) ({ frames := fr, cells := mc, slots := ms, locals := lo }) (va_Pc av (zPreS D TY aK aV wc sz)) (va_Qi (fun r u => post r.toInt u) (xB D (va_A wc sz) w1) (va_A wc sz)) mc ms (va_A wc sz)
section XSL
variable {p : Program} {l : Launch} {e : Env} {R : Room} {s : State} {m : MethodId} {args : Array Value} {below : List Frame} {meth : Method} {c : Code} {cells slots : Nat} {Q : State → Prop}
variable {D : va_G} {A : Nat → Prop} {nL : Nat} {ws : va_W} {pc : Nat} {lv : List (Nat × Value)} {st rest : List Value} {cc : ByteArray} {own : String} {TY : List (ClassId × FieldType)} {aK aV : Nat → Nat}
theorem x_callSiS (C : xC2 p s m args meth c D A s.heap nL cc own TY) (hE : zE aK aV A s s.heap) {y : MethodName} {bytes : ByteArray} {maxL fr lo mc ms n index : Nat} {ret : Option FieldType} {As : List Value} {wc : va_W} {S : Type} {w1 : S → va_W} {post : Int → S → Prop} (hM : zMiS l D TY aK aV y bytes maxL ret fr lo mc ms As wc w1 post) {l1 l2 : va_W} (hws : ws = l1 ++ wc ++ l2) {w2 : S → va_W} (hw2 : ∀ u, l1 ++ w1 u ++ l2 = w2 u) (hst : st = As.reverse ++ rest) (hcode : Cond.code y bytes maxL ret ∈ WG) (hini : Cond.initialized y.cls ∈ WG) (hlink : Cond.methodLink own index y ∈ WG) (hst2 : Cond.static y ∈ WG) (hd2 : y.cls ≠ "java/lang/invoke/MethodHandle" ∧ y.cls ≠ "java/lang/invoke/VarHandle" ∧ (parseMethodDescriptor y.desc).map (fun d => d.parameters.length) = some n) (hn : As.length = n) (hR : fr + 1 ≤ R.frames ∧ 8 + (maxL + 11) + lo ≤ R.locals) (hW : (rest.map fun v => v.category).sum ≤ 8) (hf : cells + mc ≤ R.cells ∧ slots + ms ≤ R.slots) (hdg : decode cc pc = .ok (.invokestatic index, 3)) (kk : ∀ (r : Int) (u : S), R32 r → post r u → xW p l e R s m args below meth c D A s.heap nL (cells + mc) (slots + ms) Q (w2 u) (pc + 3) lv (vI r :: rest)) : xW p l e R s m args below meth c D A s.heap nL cells slots Q ws pc lv st := by
  subst hst
  intro H locs la hP hD hS hl
  have hF := xfree (D := D) hws hD hS C.1.2.2.2.2.2.2.1
  refine va_calli (va_runS C.fix (hM H.size) ⟨callB_of n C.1.2.2.2.2.1 (WG_good2 _ hcode) rfl rfl rfl (C.1.2.2.2.2.1 _ hini) (C.1.2.2.2.2.1 _ hlink) hd2 hR, C.1.2.2.2.2.1 _ hst2⟩ ⟨zPreS.blind, fun U hU hW => ⟨rfl, ⟨by rw [hU], by rw [hU]; exact xsubP hws hP, xK.warm hW C.K, xsubD hws hD⟩, by rw [hU]; exact zE.go hE hS.2.1 hF hW⟩⟩ rfl hn hl.1 rfl (lv_room hW) hdg hf) hS (fun q _ h => hF q h) hF (fun r u t H1 locs ht hvm hw hB hz1 hk1 hS => ?_)
  obtain ⟨hP1, hD1⟩ := hB
  rw [ht] at hP1
  obtain ⟨hP2, hD2⟩ := xframe hws hP hD hk1 hF hP1 hD1
  rw [hw2] at hP2 hD2
  have := kk r.toInt u (xi_r r) hw H1 locs la hP2 hD2 hS hl
  rw [vI, xi_of] at this
  exact this
theorem x_callViS (C : xC2 p s m args meth c D A s.heap nL cc own TY) (hE : zE aK aV A s s.heap) {y : MethodName} {bytes : ByteArray} {maxL fr lo mc ms n index : Nat} {ret : Option FieldType} {As : List Value} {wc : va_W} {S : Type} {w1 : S → va_W} {post : Int → S → Prop} {b : Nat} {Cn : String} {T : u_T} {NN ci : Nat} {fs : List Value} (q0 : Nat) (he : ws[q0]? = some (b, .inr (ci, fs))) (hcl : vwCl[ci]? = some (Cn, T, NN)) (hM : zMiS l D TY aK aV y bytes maxL ret fr lo mc ms (.ref b :: As) wc w1 post) {l1 l2 : va_W} (hws : ws = l1 ++ wc ++ l2) {w2 : S → va_W} (hw2 : ∀ u, l1 ++ w1 u ++ l2 = w2 u) (hst : st = As.reverse ++ .ref b :: rest) (hcode : Cond.code y bytes maxL ret ∈ WG) (hini : Cond.initialized y.cls ∈ WG) (hlink : Cond.methodLink own index y ∈ WG) (hst2 : Cond.instanceMethod y ∈ WG) (hsel : Cond.selects Cn y y ∈ WG) (hd2 : y.cls ≠ "java/lang/invoke/MethodHandle" ∧ y.cls ≠ "java/lang/invoke/VarHandle" ∧ (parseMethodDescriptor y.desc).map (fun d => d.parameters.length) = some n) (hn : As.length = n) (hR : fr + 1 ≤ R.frames ∧ 8 + (maxL + 11) + lo ≤ R.locals) (hW : (rest.map fun v => v.category).sum ≤ 8) (hf : cells + mc ≤ R.cells ∧ slots + ms ≤ R.slots) (hdg : decode cc pc = .ok (.invokevirtual index, 3)) (kk : ∀ (r : Int) (u : S), R32 r → post r u → xW p l e R s m args below meth c D A s.heap nL (cells + mc) (slots + ms) Q (w2 u) (pc + 3) lv (vI r :: rest)) : xW p l e R s m args below meth c D A s.heap nL cells slots Q ws pc lv st := by
  subst hst
  intro H locs la hP hD hS hl
  have hF := xfree (D := D) hws hD hS C.1.2.2.2.2.2.2.1
  refine va_calli (va_runV C.fix (hM H.size) ⟨callB_of n C.1.2.2.2.2.1 (WG_good2 _ hcode) rfl rfl rfl (C.1.2.2.2.2.1 _ hini) (C.1.2.2.2.2.1 _ hlink) hd2 hR, C.1.2.2.2.2.1 _ hst2, C.1.2.2.2.2.1 _ hsel⟩ ⟨zPreS.blind, va_recv C.1.2.2.2.2.2.1 hP hcl he, fun U hU hW => ⟨rfl, ⟨by rw [hU], by rw [hU]; exact xsubP hws hP, xK.warm hW C.K, xsubD hws hD⟩, by rw [hU]; exact zE.go hE hS.2.1 hF hW⟩⟩ rfl hn hl.1 rfl (lv_room hW) hdg hf) hS (fun q _ h => hF q h) hF (fun r u t H1 locs ht hvm hw hB hz1 hk1 hS => ?_)
  obtain ⟨hP1, hD1⟩ := hB
  rw [ht] at hP1
  obtain ⟨hP2, hD2⟩ := xframe hws hP hD hk1 hF hP1 hD1
  rw [hw2] at hP2 hD2
  have := kk r.toInt u (xi_r r) hw H1 locs la hP2 hD2 hS hl
  rw [vI, xi_of] at this
  exact this
theorem x_callJiS (C : xC2 p s m args meth c D A s.heap nL cc own TY) (hE : zE aK aV A s s.heap) {y : MethodName} {bytes : ByteArray} {maxL fr lo mc ms n index : Nat} {ret : Option FieldType} {As : List Value} {wc : va_W} {S : Type} {w1 : S → va_W} {post : Int → S → Prop} {i : Nat} (hi : i < 3) (hM : zMiS l D TY aK aV y bytes maxL ret fr lo mc ms (.ref (aK i) :: As) wc w1 post) {l1 l2 : va_W} (hws : ws = l1 ++ wc ++ l2) {w2 : S → va_W} (hw2 : ∀ u, l1 ++ w1 u ++ l2 = w2 u) (hst : st = As.reverse ++ .ref (aK i) :: rest) (hcode : Cond.code y bytes maxL ret ∈ WG) (hini : Cond.initialized y.cls ∈ WG) (hlink : Cond.methodLink own index y ∈ WG) (hst2 : Cond.instanceMethod y ∈ WG) (hsel : Cond.selects "java/lang/String" y y ∈ WG) (hd2 : y.cls ≠ "java/lang/invoke/MethodHandle" ∧ y.cls ≠ "java/lang/invoke/VarHandle" ∧ (parseMethodDescriptor y.desc).map (fun d => d.parameters.length) = some n) (hn : As.length = n) (hR : fr + 1 ≤ R.frames ∧ 8 + (maxL + 11) + lo ≤ R.locals) (hW : (rest.map fun v => v.category).sum ≤ 8) (hf : cells + mc ≤ R.cells ∧ slots + ms ≤ R.slots) (hdg : decode cc pc = .ok (.invokevirtual index, 3)) (kk : ∀ (r : Int) (u : S), R32 r → post r u → xW p l e R s m args below meth c D A s.heap nL (cells + mc) (slots + ms) Q (w2 u) (pc + 3) lv (vI r :: rest)) : xW p l e R s m args below meth c D A s.heap nL cells slots Q ws pc lv st := by
  subst hst
  intro H locs la hP hD hS hl
  have hF := xfree (D := D) hws hD hS C.1.2.2.2.2.2.2.1
  refine va_calli (va_runV C.fix (hM H.size) ⟨callB_of n C.1.2.2.2.2.1 (WG_good2 _ hcode) rfl rfl rfl (C.1.2.2.2.2.1 _ hini) (C.1.2.2.2.2.1 _ hlink) hd2 hR, C.1.2.2.2.2.1 _ hst2, C.1.2.2.2.2.1 _ hsel⟩ ⟨zPreS.blind, vk_recv hE.1 hi hS, fun U hU hW => ⟨rfl, ⟨by rw [hU], by rw [hU]; exact xsubP hws hP, xK.warm hW C.K, xsubD hws hD⟩, by rw [hU]; exact zE.go hE hS.2.1 hF hW⟩⟩ rfl hn hl.1 rfl (lv_room hW) hdg hf) hS (fun q _ h => hF q h) hF (fun r u t H1 locs ht hvm hw hB hz1 hk1 hS => ?_)
  obtain ⟨hP1, hD1⟩ := hB
  rw [ht] at hP1
  obtain ⟨hP2, hD2⟩ := xframe hws hP hD hk1 hF hP1 hD1
  rw [hw2] at hP2 hD2
  have := kk r.toInt u (xi_r r) hw H1 locs la hP2 hD2 hS hl
  rw [vI, xi_of] at this
  exact this
theorem zMiS.mk {y : MethodName} {bytes : ByteArray} {maxL fr lo mc ms : Nat} {ret : Option FieldType} {av : List Value} {wc : va_W} {S : Type} {w1 : S → va_W} {post : Int → S → Prop} {lv0 : List (Nat × Value)} (hy : plainName y.cls = true) (hlv : lv_args 0 av = lv0) (hl : (lg_sl av).length ≤ maxL)
    (body : ∀ (p : Program) (e : Env) (s : State) (m : MethodId) (below : List Frame) (meth : Method) (c : Code) (A : Nat → Prop), xC2 p s m av.toArray meth c D A s.heap maxL bytes y.cls TY → meth.sig.returnType = ret → meth.name = y.name → A = va_A wc s.heap.size → zE aK aV A s s.heap → xW p l e ({ frames := fr, cells := mc, slots := ms, locals := lo }) s m av.toArray below meth c D A s.heap maxL 0 0 (MQ below (va_Qi (fun r u => post r.toInt u) (xB D A w1) A) av.toArray s mc ms A) wc 0 lv0 []) : zMiS l D TY aK aV y bytes maxL ret fr lo mc ms av wc w1 post := by
  intro sz
  refine Met.ofW (cc := bytes) (maxL := maxL) (ret := ret) hy rfl ?_
  intro p e s m args below meth c s₁ B hml hv
  obtain ⟨rfl, ⟨hsz, hP, hK, hD0⟩, hE⟩ := hv
  have hts := atoms_spec (ws := Cond.code y bytes maxL ret :: WG) B.pre
  have hown : s.vm.findClass y.cls = some m.cls := findClass_of_methodNamed B.named
  subst hsz
  subst hlv
  rw [lg_entry_eq]
  exact body p e s m below meth c (va_A wc s.heap.size) ⟨⟨B.exec, B.bytes, hml, hown, fun w h => hts w (List.mem_cons_of_mem _ h), hK.1, fun q h => Or.inr h, B.notSynchronized⟩, hK.2⟩ B.returns (name_of_methodNamed B.named B.method).1 rfl hE s.heap [] _ hP (hD0.self (sz := s.heap.size)) va_S.rf (lv_entry av hl)
theorem x_ldcS (C : xC2 p s m args meth c D A s.heap nL cc own TY) {tx : String} {index q : Nat} (hZ : vk_R own index tx q s) (hd : decode cc pc = .ok (.ldc index, 2)) (k : xW p l e R s m args below meth c D A s.heap nL cells slots Q ws (pc + 2) lv (.ref q :: st)) : xW p l e R s m args below meth c D A s.heap nL cells slots Q ws pc lv st :=
  fun H locs la hP hD hS hl => va_ldcS C.1.1 C.1.2.1 C.1.2.2.2.1 hZ hd (k H locs la hP hD hS hl)
theorem x_fval (C : xC2 p s m args meth c D A s.heap nL cc RJ0 TY) (hE : zE aK aV A s s.heap) {i : Nat} (hi : i < 3) (hd : decode cc pc = .ok (.getfield 9, 3)) (k : xW p l e R s m args below meth c D A s.heap nL cells slots Q ws (pc + 3) lv (.ref (aV i) :: st)) : xW p l e R s m args below meth c D A s.heap nL cells slots Q ws pc lv (.ref (aK i) :: st) :=
  fun H locs la hP hD hS hl => vk_getf C.1.1 C.1.2.1 (hE.1.1 i hi).2.2.1 hS C.1.2.2.2.1 (C.1.2.2.2.2.1 _ wf_J0_9) (fun _ h => h) hd (k H locs la hP hD hS hl)
theorem x_fcod (C : xC2 p s m args meth c D A s.heap nL cc RJ0 TY) (hE : zE aK aV A s s.heap) {i : Nat} (hi : i < 3) (hd : decode cc pc = .ok (.getfield 15, 3)) (k : xW p l e R s m args below meth c D A s.heap nL cells slots Q ws (pc + 3) lv (vI 0 :: st)) : xW p l e R s m args below meth c D A s.heap nL cells slots Q ws pc lv (.ref (aK i) :: st) :=
  fun H locs la hP hD hS hl => vk_getf C.1.1 C.1.2.1 (hE.1.1 i hi).2.1 hS C.1.2.2.2.1 (C.1.2.2.2.2.1 _ wf_J0_15) (fun _ h => h) hd (k H locs la hP hD hS hl)
theorem x_zcom (C : xC2 p s m args meth c D A s.heap nL cc RJ0 TY) (hE : zE aK aV A s s.heap) (hd : decode cc pc = .ok (.getstatic 38, 3)) (k : xW p l e R s m args below meth c D A s.heap nL cells slots Q ws (pc + 3) lv (vI 1 :: st)) : xW p l e R s m args below meth c D A s.heap nL cells slots Q ws pc lv st :=
  fun H locs la hP hD hS hl => va_gets C.1.1 C.1.2.1 hE.2.1 hS C.1.2.2.2.1 (C.1.2.2.2.2.1 _ wf_J0_38) (fun _ h => h) hd (k H locs la hP hD hS hl)
def zsl (i : Nat) : Int := ((zLen.getD i 0 : Nat) : Int)
theorem zsl_b {i : Nat} (hi : i < 3) : 1 ≤ zsl i ∧ zsl i ≤ 13 := by
  have : i = 0 ∨ i = 1 ∨ i = 2 := by omega
  rcases this with rfl | rfl | rfl <;> decide
theorem zsl_v {i : Nat} (hi : i < 3) : Int32.ofNat (zLen.getD i 0) = Int32.ofInt (zsl i) := by
  have : i = 0 ∨ i = 1 ∨ i = 2 := by omega
  rcases this with rfl | rfl | rfl <;> decide
def zsb (i : Nat) (q : Int) : Int := ((zByt.getD i []).getD q.toNat 0).toInt
theorem x_tlenS (C : xC2 p s m args meth c D A s.heap nL cc own TY) (hE : zE aK aV A s s.heap) {i : Nat} (hi : i < 3) (hd : decode cc pc = .ok (.arraylength, 1)) (k : xW p l e R s m args below meth c D A s.heap nL cells slots Q ws (pc + 1) lv (vI (zsl i) :: st)) : xW p l e R s m args below meth c D A s.heap nL cells slots Q ws pc lv (.ref (aV i) :: st) :=
  fun H locs la hP hD hS hl => va_tlen C.1.1 C.1.2.1 (hE.1.1 i hi).2.2.2 hS (zsl_v hi) hd (k H locs la hP hD hS hl)
theorem x_tbS (C : xC2 p s m args meth c D A s.heap nL cc own TY) (hE : zE aK aV A s s.heap) {i : Nat} (hi : i < 3) {q : Int} (hq : 0 ≤ q ∧ q < zsl i) (hd : decode cc pc = .ok (.baload, 1)) (k : ∀ z : Int, R32 z → z = zsb i q → xW p l e R s m args below meth c D A s.heap nL cells slots Q ws (pc + 1) lv (vI z :: st)) : xW p l e R s m args below meth c D A s.heap nL cells slots Q ws pc lv (vI q :: .ref (aV i) :: st) := by
  intro H locs la hP hD hS hl
  have hb := zsl_b hi
  have k2 := k _ (xi_r _) rfl H locs la hP hD hS hl
  simp only [vI, zsb, xi_of] at k2
  refine va_tb C.1.1 C.1.2.1 (hE.1.1 i hi).2.2.2 hS (xi_in (a := q) hq (by have := hb.2; unfold zsl at this; omega)) ?_ hd k2
  show Value.int _ = _
  rw [xi_nat ⟨by omega, by omega⟩]
theorem x_bret {S : Type} {w1 : S → va_W} {post : Int → S → Prop} {a : Int} (C : xC2 p s m args meth c D A s.heap nL cc own TY) (hr : meth.sig.returnType = some .byte) (hd : decode cc pc = .ok (.ireturn, 1)) (ha : a = 0) (u : S) (hw : ws = w1 u) (hp : post a u) : xW p l e R s m args below meth c D A s.heap nL cells slots (MQ below (va_Qi (fun r u => post r.toInt u) (xB D A w1) A) args s cells slots A) ws pc lv [vI a] := by
  subst hw; subst ha
  intro H locs la hP hD hS hl
  refine W.zret C.1.1 C.1.2.1 hr rfl (fun t ht hW => ⟨⟨Int32.ofInt 0, u, rfl, hp, by rw [ht]; exact hP, hD⟩, hS.F ht⟩) hS.2.2 hd C.1.2.2.2.2.2.2.2
end XSL
end
section
-- what hands back a reference, a reference put into an array
theorem Sp.all {z : Int} {P : Prop} (h : P) (hz : 0 ≤ z ∧ z ≤ 1) : Sp z P := by
  rcases (show z = 0 ∨ z = 1 by omega) with h1 | h1
  · exact Or.inl h1
  · exact Or.inr ⟨h1, h⟩
def zMr (l : Launch) (D : va_G) (TY : List (ClassId × FieldType)) (ad : Nat → Nat) (y : MethodName) (cc : ByteArray) (maxL : Nat) (ret : Option FieldType) (fr lo mc ms : Nat) (av : List Value) (wc : va_W) {S : Type} (w1 : S → va_W) (post : Nat → S → Prop) : Prop := ∀ sz : Nat, Met l y (Cond.code y cc maxL ret :: WG) ({ frames := fr, cells := mc, slots := ms, locals := lo }) (va_Pc av (xPre D TY wc sz)) (va_Qr (fun v : Nat × S => post v.1 v.2) (fun v q t => q = ad v.1 ∧ xB D (va_A wc sz) w1 v.2 t) (va_A wc sz)) mc ms (va_A wc sz)
section XRL
variable {p : Program} {l : Launch} {e : Env} {R : Room} {s : State} {m : MethodId} {args : Array Value} {below : List Frame} {meth : Method} {c : Code} {cells slots : Nat} {Q : State → Prop}
variable {D : va_G} {A : Nat → Prop} {H0 : Heap} {nL : Nat} {ws : va_W} {pc : Nat} {lv : List (Nat × Value)} {st rest : List Value} {cc : ByteArray} {own : String} {TY : List (ClassId × FieldType)} {ad : Nat → Nat}
theorem x_callVr (C : xC2 p s m args meth c D A H0 nL cc own TY) {y : MethodName} {bytes : ByteArray} {maxL fr lo mc ms n index : Nat} {ret : Option FieldType} {As : List Value} {wc : va_W} {S : Type} {w1 : S → va_W} {post : Nat → S → Prop} {b : Nat} {Cn : String} {T : u_T} {NN ci : Nat} {fs : List Value} (q0 : Nat) (he : ws[q0]? = some (b, .inr (ci, fs))) (hcl : vwCl[ci]? = some (Cn, T, NN)) (hM : zMr l D TY ad y bytes maxL ret fr lo mc ms (.ref b :: As) wc w1 post) {l1 l2 : va_W} (hws : ws = l1 ++ wc ++ l2) {w2 : S → va_W} (hw2 : ∀ u, l1 ++ w1 u ++ l2 = w2 u) (hst : st = As.reverse ++ .ref b :: rest) (hcode : Cond.code y bytes maxL ret ∈ WG) (hini : Cond.initialized y.cls ∈ WG) (hlink : Cond.methodLink own index y ∈ WG) (hst2 : Cond.instanceMethod y ∈ WG) (hsel : Cond.selects Cn y y ∈ WG) (hd2 : y.cls ≠ "java/lang/invoke/MethodHandle" ∧ y.cls ≠ "java/lang/invoke/VarHandle" ∧ (parseMethodDescriptor y.desc).map (fun d => d.parameters.length) = some n) (hn : As.length = n) (hR : fr + 1 ≤ R.frames ∧ 8 + (maxL + 11) + lo ≤ R.locals) (hW : (rest.map fun v => v.category).sum ≤ 8) (hf : cells + mc ≤ R.cells ∧ slots + ms ≤ R.slots) (hdg : decode cc pc = .ok (.invokevirtual index, 3)) (kk : ∀ (q : Nat) (u : S), post q u → xW p l e R s m args below meth c D A H0 nL (cells + mc) (slots + ms) Q (w2 u) (pc + 3) lv (.ref (ad q) :: rest)) : xW p l e R s m args below meth c D A H0 nL cells slots Q ws pc lv st := by
  subst hst
  intro H locs la hP hD hS hl
  have hF := xfree (D := D) hws hD hS C.1.2.2.2.2.2.2.1
  refine va_callr (va_runV C.fix (hM H.size) ⟨callB_of n C.1.2.2.2.2.1 (WG_good2 _ hcode) rfl rfl rfl (C.1.2.2.2.2.1 _ hini) (C.1.2.2.2.2.1 _ hlink) hd2 hR, C.1.2.2.2.2.1 _ hst2, C.1.2.2.2.2.1 _ hsel⟩ ⟨xPre.blind, va_recv C.1.2.2.2.2.2.1 hP hcl he, fun U hU hW => ⟨rfl, by rw [hU], by rw [hU]; exact xsubP hws hP, xK.warm hW C.K, xsubD hws hD⟩⟩ rfl hn hl.1 rfl (lv_room hW) hdg hf) hS (fun q _ h => hF q h) hF (fun u ra t H1 locs ht hvm hw hB hz1 hk1 hS => ?_)
  obtain ⟨hra, hP1, hD1⟩ := hB
  subst hra
  rw [ht] at hP1
  obtain ⟨hP2, hD2⟩ := xframe hws hP hD hk1 hF hP1 hD1
  rw [hw2] at hP2 hD2
  exact kk u.1 u.2 hw H1 locs la hP2 hD2 hS hl
theorem zMr.mk {y : MethodName} {bytes : ByteArray} {maxL fr lo mc ms : Nat} {ret : Option FieldType} {av : List Value} {wc : va_W} {S : Type} {w1 : S → va_W} {post : Nat → S → Prop} {lv0 : List (Nat × Value)} (hy : plainName y.cls = true) (hlv : lv_args 0 av = lv0) (hl : (lg_sl av).length ≤ maxL)
    (body : ∀ (p : Program) (e : Env) (s : State) (m : MethodId) (below : List Frame) (meth : Method) (c : Code) (A : Nat → Prop), xC2 p s m av.toArray meth c D A s.heap maxL bytes y.cls TY → meth.sig.returnType = ret → meth.name = y.name → A = va_A wc s.heap.size → xW p l e ({ frames := fr, cells := mc, slots := ms, locals := lo }) s m av.toArray below meth c D A s.heap maxL 0 0 (MQ below (va_Qr (fun v : Nat × S => post v.1 v.2) (fun v q t => q = ad v.1 ∧ xB D A w1 v.2 t) A) av.toArray s mc ms A) wc 0 lv0 []) : zMr l D TY ad y bytes maxL ret fr lo mc ms av wc w1 post := by
  intro sz
  refine Met.ofW (cc := bytes) (maxL := maxL) (ret := ret) hy rfl ?_
  intro p e s m args below meth c s₁ B hml hv
  obtain ⟨rfl, hsz, hP, hK, hD0⟩ := hv
  have hts := atoms_spec (ws := Cond.code y bytes maxL ret :: WG) B.pre
  have hown : s.vm.findClass y.cls = some m.cls := findClass_of_methodNamed B.named
  subst hsz
  subst hlv
  rw [lg_entry_eq]
  exact body p e s m below meth c (va_A wc s.heap.size) ⟨⟨B.exec, B.bytes, hml, hown, fun w h => hts w (List.mem_cons_of_mem _ h), hK.1, fun q h => Or.inr h, B.notSynchronized⟩, hK.2⟩ B.returns (name_of_methodNamed B.named B.method).1 rfl s.heap [] _ hP (hD0.self (sz := s.heap.size)) va_S.rf (lv_entry av hl)
theorem x_aret {S : Type} {w1 : S → va_W} {post : Nat → S → Prop} {a : Nat} {nm : String} (C : xC2 p s m args meth c D A H0 nL cc own TY) (hr : meth.sig.returnType = some (.object nm)) (hH : H0 = s.heap) (hd : decode cc pc = .ok (.areturn, 1)) (u : S) (hw : ws = w1 u) (hp : post a u) : xW p l e R s m args below meth c D A H0 nL cells slots (MQ below (va_Qr (fun v : Nat × S => post v.1 v.2) (fun v q t => q = ad v.1 ∧ xB D A w1 v.2 t) A) args s cells slots A) ws pc lv [.ref (ad a)] := by
  subst hw; subst hH
  intro H locs la hP hD hS hl
  exact W.aret C.1.1 C.1.2.1 hr (Or.inl ⟨_, rfl⟩) (Or.inr ⟨_, rfl⟩) (fun t ht hW => ⟨⟨(a, u), ad a, rfl, hp, rfl, by rw [ht]; exact hP, hD⟩, hS.F ht⟩) hS.2.2 hd C.1.2.2.2.2.2.2.2
variable {N : Nat} {dsc : Nat → xD} {cy : Nat → ClassId} {V J : Nat → Nat → Int} {Rr : Nat → Nat → Nat}
theorem x_astR (C : xC2 p s m args meth c D A H0 nL cc own (xTY cy)) {t : Nat} {r : vw_C} (ht : (xTY cy)[t]? = some (cy t, .object r.1)) {i n b d j ci : Nat} {ks : List Nat} {q : Int} (hi : i < N) (hds : dsc i = .inr (t, n, 2, b, d)) (hj : j < N) (hdj : dsc j = .inl (ci, ks)) (hc : vwCl[ci]? = some r) (hq : 0 ≤ q ∧ q < n) (hn : n < 2147483648) (hd : decode cc pc = .ok (.aastore, 1)) (kk : xW p l e R s m args below meth c D A H0 nL cells slots Q (xw N dsc cy ad V J (up2 Rr i q.toNat j)) (pc + 1) lv st) : xW p l e R s m args below meth c D A H0 nL cells slots Q (xw N dsc cy ad V J Rr) pc lv (.ref (ad j) :: vI q :: .ref (ad i) :: st) := by
  intro H locs la hP hD hS hl
  have hA := xw_at (cy := cy) (ad := ad) (V := V) (J := J) (Rr := Rr) hi hds
  have hB := xw_at (cy := cy) (ad := ad) (V := V) (J := J) (Rr := Rr) hj hdj
  refine va_astq C.1.1 C.1.2.1 C.1.2.2.2.2.2.1 hP hD hS i t j ci (r := r) hA ht hB hc (xi_in hq hn) hd (fun H1 locs1 hP1 hD1 hS1 => ?_)
  have e1 : (xw N dsc cy ad V J Rr).set i (ad i, .inl (cy t, n, .inr (.inr (.inr (.inr (va_up (fun k => some (ad (Rr i k))) (Int32.ofInt q).toNatClampNeg (some (ad j)))))))) = xw N dsc cy ad V J (up2 Rr i q.toNat j) := by
    refine xw_set hi ?_ (fun j hj => rfl) (fun j hj => rfl) (fun j hj => up2_c _ _ hj)
    rw [hds]
    have e : va_up (fun k => some (ad (Rr i k))) (Int32.ofInt q).toNatClampNeg (some (ad j)) = fun k => some (ad (up2 Rr i q.toNat j i k)) := by
      funext k
      rw [xi_nat (a := q) ⟨by omega, by omega⟩]
      simp only [va_up, up2, up1, if_true]
      split <;> rfl
    rw [e]
    rfl
  rw [e1] at hP1 hD1
  exact kk H1 locs1 la hP1 hD1 hS1 hl
end XRL
theorem prT_T2 {t : Nat} (h : isTx t) (k : Nat) : prT (t + 2) k = false := by
  rcases h with rfl | rfl | rfl | rfl | rfl | rfl <;> rfl
theorem prT_T3 {t : Nat} (h : isTx t) (k : Nat) : prT (t + 3) k = false := by
  rcases h with rfl | rfl | rfl | rfl | rfl | rfl <;> rfl
theorem prT_T4 {t : Nat} (h : isTx t) (k : Nat) : prT (t + 4) k = false := by
  rcases h with rfl | rfl | rfl | rfl | rfl | rfl <;> rfl
/-- as XI, nothing watched -/
def XU (_G V : Nat → Nat → Int) : Prop := XI V V
theorem XU.rd {G V : Nat → Nat → Int} (h : XU G V) (i k : Nat) {x y : Int} (hr : rgX i k = (x, y)) : ∃ z : Int, V i k = z ∧ x ≤ z ∧ z ≤ y := XI.rd h i k hr
theorem XU.vr {G V : Nat → Nat → Int} (h : XU G V) : VR V := XI.vr h
theorem XI.toU {G V : Nat → Nat → Int} (h : XI G V) : XI V V := fun i k => ⟨(h i k).1, fun _ => rfl⟩
theorem XU.up {G V W : Nat → Nat → Int} (h : XU G V) {i k : Nat} {a : Int} (hW : W = up2 V i k a) {x y : Int} (hr : rgX i k = (x, y)) (ha : x ≤ a ∧ a ≤ y) (_ : True) : XU G W := by
  subst hW
  intro j q
  refine ⟨?_, fun _ => rfl⟩
  by_cases e : j = i ∧ q = k
  · obtain ⟨rfl, rfl⟩ := e
    rw [up2_s, hr]
    exact ha
  · rw [up2_n _ _ (by omega)]
    exact (h j q).1
theorem XU.cp {G V W : Nat → Nat → Int} (h : XU G V) {i sp j dp n : Nat} (hW : W = cpV V i sp j dp n) {x y : Int} (hi : ∀ k, rgX i k = (x, y)) (hj : ∀ k, rgX j k = (x, y)) (_ : ∀ k, prX j k = false) : XU G W := by
  subst hW
  intro q k
  refine ⟨?_, fun _ => rfl⟩
  unfold cpV
  split
  · next hh =>
    obtain ⟨rfl, -, -⟩ := hh
    have := (h i (sp + (k - dp))).1
    rw [hi] at this
    rw [hj]
    exact this
  · exact (h q k).1
end
section
theorem dJ0_isLatin1_aae02_0 : decode cJ0_isLatin1_aae02 0 = .ok (.getstatic 38, 3) := by decide +kernel
theorem dJ0_isLatin1_aae02_3 : decode cJ0_isLatin1_aae02 3 = .ok (.ifCond .eq 14, 3) := by decide +kernel
theorem dJ0_isLatin1_aae02_6 : decode cJ0_isLatin1_aae02 6 = .ok (.aload_n 0, 1) := by decide +kernel
theorem dJ0_isLatin1_aae02_7 : decode cJ0_isLatin1_aae02 7 = .ok (.getfield 15, 3) := by decide +kernel
theorem dJ0_isLatin1_aae02_10 : decode cJ0_isLatin1_aae02 10 = .ok (.ifCond .ne 7, 3) := by decide +kernel
theorem dJ0_isLatin1_aae02_13 : decode cJ0_isLatin1_aae02 13 = .ok (.iconst 1, 1) := by decide +kernel
theorem dJ0_isLatin1_aae02_14 : decode cJ0_isLatin1_aae02 14 = .ok (.goto 4, 3) := by decide +kernel
theorem dJ0_isLatin1_aae02_18 : decode cJ0_isLatin1_aae02 18 = .ok (.ireturn, 1) := by decide +kernel
set_option maxRecDepth 100000 in
def f_j_isLatin1 (k0 : Nat) : (Int) → Prop :=
  rtn 1
set_option maxHeartbeats 8000000 in
set_option maxRecDepth 100000 in
theorem j_isLatin1 (l : Launch) (D : va_G) (cy : Nat → ClassId) (aK aV : Nat → Nat) (k0 : Nat) (hk0 : k0 < 3) : zMiS l D (xTY cy) aK aV yJ0_isLatin1_aae02 cJ0_isLatin1_aae02 1 (some .boolean) 0 0 0 0 [.ref (aK k0)] [] (fun _ : Unit => []) (fun a (u : Unit) => (1 ≤ a ∧ a ≤ 1) ∧ (f_j_isLatin1 k0) a) := by
  refine zMiS.mk (lv0 := [(0, .ref (aK k0))]) (by decide) rfl (Nat.le_of_ble_eq_true rfl) (fun p e s m below meth c A C hr hnm hAe hE => ?_)
  have C : xC2 p s m _ meth c D A s.heap 1 cJ0_isLatin1_aae02 RJ0 (xTY cy) := C
  have hF := Imp.of_eq (f_j_isLatin1.eq_def k0)
  refine x_zcom C hE dJ0_isLatin1_aae02_0 ?_
  refine x_if_eq_f C.1 (tgt := 17) dJ0_isLatin1_aae02_3 (by decide) (by decide) (by decide) ?_
  refine x_aload_n C.1 dJ0_isLatin1_aae02_6 0 rfl ?_
  refine x_fcod C hE hk0 dJ0_isLatin1_aae02_7 ?_
  refine x_if_ne_f C.1 (tgt := 17) dJ0_isLatin1_aae02_10 (by decide) (by decide) (by decide) ?_
  refine x_iconst C.1 (n := 1) dJ0_isLatin1_aae02_13 ?_
  refine x_goto C.1 (tgt := 18) dJ0_isLatin1_aae02_14 (by decide) ?_
  exact x_zret (S := Unit) (post := (fun a (u : Unit) => (1 ≤ a ∧ a ≤ 1) ∧ (f_j_isLatin1 k0) a)) (w1 := (fun _ : Unit => [])) (a := 1) C hr rfl dJ0_isLatin1_aae02_18 (by decide) () rfl ⟨⟨by decide, by decide⟩, hF _ rfl⟩
theorem dJ0_coder_7d493_0 : decode cJ0_coder_7d493 0 = .ok (.getstatic 38, 3) := by decide +kernel
theorem dJ0_coder_7d493_3 : decode cJ0_coder_7d493 3 = .ok (.ifCond .eq 10, 3) := by decide +kernel
theorem dJ0_coder_7d493_6 : decode cJ0_coder_7d493 6 = .ok (.aload_n 0, 1) := by decide +kernel
theorem dJ0_coder_7d493_7 : decode cJ0_coder_7d493 7 = .ok (.getfield 15, 3) := by decide +kernel
theorem dJ0_coder_7d493_10 : decode cJ0_coder_7d493 10 = .ok (.goto 4, 3) := by decide +kernel
theorem dJ0_coder_7d493_14 : decode cJ0_coder_7d493 14 = .ok (.ireturn, 1) := by decide +kernel
set_option maxRecDepth 100000 in
def f_j_coder (k0 : Nat) : (Int) → Prop :=
  rtn 0
set_option maxHeartbeats 8000000 in
set_option maxRecDepth 100000 in
theorem j_coder (l : Launch) (D : va_G) (cy : Nat → ClassId) (aK aV : Nat → Nat) (k0 : Nat) (hk0 : k0 < 3) : zMiS l D (xTY cy) aK aV yJ0_coder_7d493 cJ0_coder_7d493 1 (some .byte) 0 0 0 0 [.ref (aK k0)] [] (fun _ : Unit => []) (fun a (u : Unit) => (0 ≤ a ∧ a ≤ 0) ∧ (f_j_coder k0) a) := by
  refine zMiS.mk (lv0 := [(0, .ref (aK k0))]) (by decide) rfl (Nat.le_of_ble_eq_true rfl) (fun p e s m below meth c A C hr hnm hAe hE => ?_)
  have C : xC2 p s m _ meth c D A s.heap 1 cJ0_coder_7d493 RJ0 (xTY cy) := C
  have hF := Imp.of_eq (f_j_coder.eq_def k0)
  refine x_zcom C hE dJ0_coder_7d493_0 ?_
  refine x_if_eq_f C.1 (tgt := 13) dJ0_coder_7d493_3 (by decide) (by decide) (by decide) ?_
  refine x_aload_n C.1 dJ0_coder_7d493_6 0 rfl ?_
  refine x_fcod C hE hk0 dJ0_coder_7d493_7 ?_
  refine x_goto C.1 (tgt := 14) dJ0_coder_7d493_10 (by decide) ?_
  exact x_bret (S := Unit) (post := (fun a (u : Unit) => (0 ≤ a ∧ a ≤ 0) ∧ (f_j_coder k0) a)) (w1 := (fun _ : Unit => [])) (a := 0) C hr dJ0_coder_7d493_14 (by omega) () rfl ⟨⟨by decide, by decide⟩, hF _ rfl⟩
theorem hd_yJ0_coder_7d493 : yJ0_coder_7d493.cls ≠ "java/lang/invoke/MethodHandle" ∧ yJ0_coder_7d493.cls ≠ "java/lang/invoke/VarHandle" ∧ (parseMethodDescriptor yJ0_coder_7d493.desc).map (fun d => d.parameters.length) = some 0 := by decide +kernel
theorem dJ0_length_8abf5_0 : decode cJ0_length_8abf5 0 = .ok (.aload_n 0, 1) := by decide +kernel
theorem dJ0_length_8abf5_1 : decode cJ0_length_8abf5 1 = .ok (.getfield 9, 3) := by decide +kernel
theorem dJ0_length_8abf5_4 : decode cJ0_length_8abf5 4 = .ok (.arraylength, 1) := by decide +kernel
theorem dJ0_length_8abf5_5 : decode cJ0_length_8abf5 5 = .ok (.aload_n 0, 1) := by decide +kernel
theorem dJ0_length_8abf5_6 : decode cJ0_length_8abf5 6 = .ok (.invokevirtual 335, 3) := by decide +kernel
theorem dJ0_length_8abf5_9 : decode cJ0_length_8abf5 9 = .ok (.ishr, 1) := by decide +kernel
theorem dJ0_length_8abf5_10 : decode cJ0_length_8abf5 10 = .ok (.ireturn, 1) := by decide +kernel
set_option maxRecDepth 100000 in
def f_j_length (k0 : Nat) : (Int) → Prop :=
  calR (f_j_coder k0) fun z2 => fct (0 ≤ z2 ∧ z2 ≤ 0) <| rdb (iShr ((zsl k0)) z2) fun z3 => rtn z3
set_option maxHeartbeats 8000000 in
set_option maxRecDepth 100000 in
theorem j_length (l : Launch) (D : va_G) (cy : Nat → ClassId) (aK aV : Nat → Nat) (k0 : Nat) (hk0 : k0 < 3) : zMiS l D (xTY cy) aK aV yJ0_length_8abf5 cJ0_length_8abf5 1 (some .int) 1 20 0 0 [.ref (aK k0)] [] (fun _ : Unit => []) (fun a (u : Unit) => (f_j_length k0) a) := by
  refine zMiS.mk (lv0 := [(0, .ref (aK k0))]) (by decide) rfl (Nat.le_of_ble_eq_true rfl) (fun p e s m below meth c A C hr hnm hAe hE => ?_)
  have C : xC2 p s m _ meth c D A s.heap 1 cJ0_length_8abf5 RJ0 (xTY cy) := C
  have hF := Imp.of_eq (f_j_length.eq_def k0)
  refine x_aload_n C.1 dJ0_length_8abf5_0 0 rfl ?_
  refine x_fval C hE hk0 dJ0_length_8abf5_1 ?_
  refine x_tlenS C hE hk0 dJ0_length_8abf5_4 ?_
  have hsl1 := zsl_b hk0
  refine x_aload_n C.1 dJ0_length_8abf5_5 0 rfl ?_
  refine x_callJiS C hE hk0 (As := []) (rest := [vI ((zsl k0))]) (j_coder l D cy aK aV k0 hk0) (l1 := []) (l2 := _) rfl (w2 := fun _ => _) (fun _ => rfl) rfl wm_yJ0_coder_7d493 wn_J0 wl_J0_335 wi_yJ0_coder_7d493 we_yJ0_coder_7d493 hd_yJ0_coder_7d493 rfl ⟨Nat.le_of_ble_eq_true rfl, Nat.le_of_ble_eq_true rfl⟩ (Nat.le_of_ble_eq_true rfl) ⟨Nat.le_of_ble_eq_true rfl, Nat.le_of_ble_eq_true rfl⟩ dJ0_length_8abf5_6 (fun z2 u2 bz2 h2 => ?_)
  obtain ⟨bq2, hFc2⟩ := h2
  replace hF := calR_i hF hFc2
  replace hF := hF.fc bq2
  obtain ⟨z3, hz3, bz3⟩ : ∃ z : Int, iShr ((zsl k0)) z2 = z ∧ (-2147483648 ≤ z ∧ z ≤ 2147483647) := ⟨_, rfl, xi_r _⟩
  replace hF := hF.to (rdb_e (z := z3) hz3)
  refine x_ishr C.1 (v := z3) hz3 dJ0_length_8abf5_9 ?_
  exact x_iret (S := Unit) (post := (fun a (u : Unit) => (f_j_length k0) a)) (w1 := (fun _ : Unit => [])) (a := z3) C hr rfl dJ0_length_8abf5_10 (by omega) () rfl (hF _ rfl)
theorem dJ1_canEncode_9a6ad_0 : decode cJ1_canEncode_9a6ad 0 = .ok (.iload_n 0, 1) := by decide +kernel
theorem dJ1_canEncode_9a6ad_1 : decode cJ1_canEncode_9a6ad 1 = .ok (.ifCond .lt 14, 3) := by decide +kernel
theorem dJ1_canEncode_9a6ad_4 : decode cJ1_canEncode_9a6ad 4 = .ok (.iload_n 0, 1) := by decide +kernel
theorem dJ1_canEncode_9a6ad_5 : decode cJ1_canEncode_9a6ad 5 = .ok (.sipush 255, 3) := by decide +kernel
theorem dJ1_canEncode_9a6ad_8 : decode cJ1_canEncode_9a6ad 8 = .ok (.if_icmp .gt 7, 3) := by decide +kernel
theorem dJ1_canEncode_9a6ad_11 : decode cJ1_canEncode_9a6ad 11 = .ok (.iconst 1, 1) := by decide +kernel
theorem dJ1_canEncode_9a6ad_12 : decode cJ1_canEncode_9a6ad 12 = .ok (.goto 4, 3) := by decide +kernel
theorem dJ1_canEncode_9a6ad_15 : decode cJ1_canEncode_9a6ad 15 = .ok (.iconst 0, 1) := by decide +kernel
theorem dJ1_canEncode_9a6ad_16 : decode cJ1_canEncode_9a6ad 16 = .ok (.ireturn, 1) := by decide +kernel
set_option maxRecDepth 100000 in
def f_j_canEncode (x0 : Int) : (Int) → Prop :=
  (if x0 < 0 then rtn 0 else (if 255 < x0 then rtn 0 else rtn 1))
set_option maxHeartbeats 8000000 in
set_option maxRecDepth 100000 in
theorem j_canEncode (l : Launch) (D : va_G) (cy : Nat → ClassId) (x0 : Int) (bx0 : -2147483648 ≤ x0 ∧ x0 ≤ 2147483647) : xMi l D (xTY cy) yJ1_canEncode_9a6ad cJ1_canEncode_9a6ad 1 (some .boolean) 0 0 0 0 [vI x0] [] (fun _ : Unit => []) (fun a (u : Unit) => (0 ≤ a ∧ a ≤ 1) ∧ (f_j_canEncode x0) a) := by
  refine xMi.mk (lv0 := [(0, vI x0)]) (by decide) rfl (Nat.le_of_ble_eq_true rfl) (fun p e s m below meth c A C hr hnm hAe => ?_)
  have C : xC2 p s m _ meth c D A s.heap 1 cJ1_canEncode_9a6ad RJ1 (xTY cy) := C
  have hF := Imp.of_eq (f_j_canEncode.eq_def x0)
  refine x_iload_n C.1 dJ1_canEncode_9a6ad_0 0 rfl ?_
  refine x_if_lt C.1 (tgt := 15) dJ1_canEncode_9a6ad_1 (by decide) (by omega) (fun hc1 => ?_) (fun hc1 => ?_)
  · replace hF := hF.to (if_pos hc1)
    refine x_iconst C.1 (n := 0) dJ1_canEncode_9a6ad_15 ?_
    exact x_zret (S := Unit) (post := (fun a (u : Unit) => (0 ≤ a ∧ a ≤ 1) ∧ (f_j_canEncode x0) a)) (w1 := (fun _ : Unit => [])) (a := 0) C hr rfl dJ1_canEncode_9a6ad_16 (by decide) () rfl ⟨⟨by decide, by decide⟩, hF _ rfl⟩
  · replace hF := hF.to (if_neg hc1)
    refine x_iload_n C.1 dJ1_canEncode_9a6ad_4 0 rfl ?_
    refine x_sipush C.1 (n := 255) dJ1_canEncode_9a6ad_5 ?_
    refine x_icmp_gt C.1 (tgt := 15) dJ1_canEncode_9a6ad_8 (by decide) (by omega) (by decide) (fun hc2 => ?_) (fun hc2 => ?_)
    · replace hF := hF.to (if_pos hc2)
      refine x_iconst C.1 (n := 0) dJ1_canEncode_9a6ad_15 ?_
      exact x_zret (S := Unit) (post := (fun a (u : Unit) => (0 ≤ a ∧ a ≤ 1) ∧ (f_j_canEncode x0) a)) (w1 := (fun _ : Unit => [])) (a := 0) C hr rfl dJ1_canEncode_9a6ad_16 (by decide) () rfl ⟨⟨by decide, by decide⟩, hF _ rfl⟩
    · replace hF := hF.to (if_neg hc2)
      refine x_iconst C.1 (n := 1) dJ1_canEncode_9a6ad_11 ?_
      refine x_goto C.1 (tgt := 16) dJ1_canEncode_9a6ad_12 (by decide) ?_
      exact x_zret (S := Unit) (post := (fun a (u : Unit) => (0 ≤ a ∧ a ≤ 1) ∧ (f_j_canEncode x0) a)) (w1 := (fun _ : Unit => [])) (a := 1) C hr rfl dJ1_canEncode_9a6ad_16 (by decide) () rfl ⟨⟨by decide, by decide⟩, hF _ rfl⟩
theorem dJ1_indexOfChar_4cfef_0 : decode cJ1_indexOfChar_4cfef 0 = .ok (.iload_n 1, 1) := by decide +kernel
theorem dJ1_indexOfChar_4cfef_1 : decode cJ1_indexOfChar_4cfef 1 = .ok (.i2b, 1) := by decide +kernel
theorem dJ1_indexOfChar_4cfef_2 : decode cJ1_indexOfChar_4cfef 2 = .ok (.istore 4, 2) := by decide +kernel
theorem dJ1_indexOfChar_4cfef_4 : decode cJ1_indexOfChar_4cfef 4 = .ok (.iload_n 2, 1) := by decide +kernel
theorem dJ1_indexOfChar_4cfef_5 : decode cJ1_indexOfChar_4cfef 5 = .ok (.istore 5, 2) := by decide +kernel
theorem dJ1_indexOfChar_4cfef_7 : decode cJ1_indexOfChar_4cfef 7 = .ok (.iload 5, 2) := by decide +kernel
theorem dJ1_indexOfChar_4cfef_9 : decode cJ1_indexOfChar_4cfef 9 = .ok (.iload_n 3, 1) := by decide +kernel
theorem dJ1_indexOfChar_4cfef_10 : decode cJ1_indexOfChar_4cfef 10 = .ok (.if_icmp .ge 21, 3) := by decide +kernel
theorem dJ1_indexOfChar_4cfef_13 : decode cJ1_indexOfChar_4cfef 13 = .ok (.aload_n 0, 1) := by decide +kernel
theorem dJ1_indexOfChar_4cfef_14 : decode cJ1_indexOfChar_4cfef 14 = .ok (.iload 5, 2) := by decide +kernel
theorem dJ1_indexOfChar_4cfef_16 : decode cJ1_indexOfChar_4cfef 16 = .ok (.baload, 1) := by decide +kernel
theorem dJ1_indexOfChar_4cfef_17 : decode cJ1_indexOfChar_4cfef 17 = .ok (.iload 4, 2) := by decide +kernel
theorem dJ1_indexOfChar_4cfef_19 : decode cJ1_indexOfChar_4cfef 19 = .ok (.if_icmp .ne 6, 3) := by decide +kernel
theorem dJ1_indexOfChar_4cfef_22 : decode cJ1_indexOfChar_4cfef 22 = .ok (.iload 5, 2) := by decide +kernel
theorem dJ1_indexOfChar_4cfef_24 : decode cJ1_indexOfChar_4cfef 24 = .ok (.ireturn, 1) := by decide +kernel
theorem dJ1_indexOfChar_4cfef_25 : decode cJ1_indexOfChar_4cfef 25 = .ok (.iinc 5 1, 3) := by decide +kernel
theorem dJ1_indexOfChar_4cfef_28 : decode cJ1_indexOfChar_4cfef 28 = .ok (.goto (-21), 3) := by decide +kernel
theorem dJ1_indexOfChar_4cfef_31 : decode cJ1_indexOfChar_4cfef 31 = .ok (.iconst (-1), 1) := by decide +kernel
theorem dJ1_indexOfChar_4cfef_32 : decode cJ1_indexOfChar_4cfef 32 = .ok (.ireturn, 1) := by decide +kernel
set_option maxRecDepth 100000 in
def f_j_indexOfChar (k0 : Nat) (x1 : Int) (x2 : Int) (x3 : Int) : (Int) → Prop :=
  rdb (iB x1) fun z1 => fct (-128 ≤ z1 ∧ z1 ≤ 127) <| lop1 (2147483649) (fun rc10 (z9 : Int) => (if x3 ≤ z9 then rtn ((-1)) else rdb (zsb k0 z9) fun z15 => (if ¬ z15 = z1 then rc10 (z9 + 1) else rtn z9))) x2
set_option maxHeartbeats 8000000 in
set_option maxRecDepth 100000 in
theorem j_indexOfChar (l : Launch) (D : va_G) (cy : Nat → ClassId) (aK aV : Nat → Nat) (k0 : Nat) (hk0 : k0 < 3) (x1 : Int) (bx1 : -2147483648 ≤ x1 ∧ x1 ≤ 2147483647) (x2 : Int) (bx2 : 0 ≤ x2 ∧ x2 ≤ 2147483647) (x3 : Int) (bx3 : -2147483648 ≤ x3 ∧ x3 ≤ 2147483647) (hto : x3 ≤ zsl k0) : zMiS l D (xTY cy) aK aV yJ1_indexOfChar_4cfef cJ1_indexOfChar_4cfef 6 (some .int) 0 0 0 0 [.ref (aV k0), vI x1, vI x2, vI x3] [] (fun _ : Unit => []) (fun a (u : Unit) => (f_j_indexOfChar k0 x1 x2 x3) a) := by
  refine zMiS.mk (lv0 := [(0, .ref (aV k0)), (1, vI x1), (2, vI x2), (3, vI x3)]) (by decide) rfl (Nat.le_of_ble_eq_true rfl) (fun p e s m below meth c A C hr hnm hAe hE => ?_)
  have C : xC2 p s m _ meth c D A s.heap 6 cJ1_indexOfChar_4cfef RJ1 (xTY cy) := C
  have hF := Imp.of_eq (f_j_indexOfChar.eq_def k0 x1 x2 x3)
  refine x_iload_n C.1 dJ1_indexOfChar_4cfef_0 1 rfl ?_
  refine x_i2b C.1 dJ1_indexOfChar_4cfef_1 ?_
  obtain ⟨z1, hz1, bz1⟩ : ∃ z : Int, iB x1 = z ∧ (-128 ≤ z ∧ z ≤ 127) := ⟨_, rfl, iB_r _⟩
  rw [hz1]
  replace hF := hF.to (rdb_e (z := z1) hz1)
  replace hF := hF.fc bz1
  refine x_istore C.1 (lv' := [(4, vI z1), (0, .ref (aV k0)), (1, vI x1), (2, vI x2), (3, vI x3)]) dJ1_indexOfChar_4cfef_2 (by decide) rfl ?_
  refine x_iload_n C.1 dJ1_indexOfChar_4cfef_4 3 rfl ?_
  refine x_istore C.1 (lv' := [(5, vI x2), (4, vI z1), (0, .ref (aV k0)), (1, vI x1), (2, vI x2), (3, vI x3)]) dJ1_indexOfChar_4cfef_5 (by decide) rfl ?_
  obtain ⟨bd10, hbd10, hF⟩ := lop1_ex hF
  refine x_loop (I := fun z9 : Int => (0 ≤ z9 ∧ z9 ≤ 2147483647) ∧ (∃ nf : Nat, (2147483648 - z9).toNat < nf ∧ Imp (lop1 nf bd10 z9) (f_j_indexOfChar k0 x1 x2 x3))) (μ := fun z9 : Int => (2147483648 - z9).toNat) (wsf := fun z9 : Int => []) (lvf := fun z9 : Int => [(5, vI z9), (4, vI z1), (0, .ref (aV k0)), (1, vI x1), (2, vI x2), (3, vI x3)]) (fun z9 hI10x ih10 => ?_) x2 ⟨⟨by omega, by omega⟩, ⟨_, (by omega), hF⟩⟩ rfl rfl
  obtain ⟨bz9, nf10, hn10, hF⟩ := hI10x
  try dsimp only
  obtain ⟨nf10, rfl⟩ : ∃ mm, nf10 = mm + 1 := ⟨nf10 - 1, (Nat.succ_pred_eq_of_pos (Nat.lt_of_le_of_lt (Nat.zero_le _) hn10)).symm⟩
  replace hF := hF.to (lop1_s hbd10)
  refine x_iload C.1 dJ1_indexOfChar_4cfef_7 0 rfl ?_
  refine x_iload_n C.1 dJ1_indexOfChar_4cfef_9 5 rfl ?_
  refine x_icmp_ge C.1 (tgt := 31) dJ1_indexOfChar_4cfef_10 (by decide) (by omega) (by omega) (fun hc14 => ?_) (fun hc14 => ?_)
  · replace hF := hF.to (if_pos hc14)
    refine x_iconst C.1 (n := -1) dJ1_indexOfChar_4cfef_31 ?_
    exact x_iret (S := Unit) (post := (fun a (u : Unit) => (f_j_indexOfChar k0 x1 x2 x3) a)) (w1 := (fun _ : Unit => [])) (a := (-1)) C hr rfl dJ1_indexOfChar_4cfef_32 (by decide) () rfl (hF _ rfl)
  · replace hF := hF.to (if_neg hc14)
    refine x_aload_n C.1 dJ1_indexOfChar_4cfef_13 2 rfl ?_
    refine x_iload C.1 dJ1_indexOfChar_4cfef_14 0 rfl ?_
    refine x_tbS C hE hk0 (q := z9) (by omega) dJ1_indexOfChar_4cfef_16 (fun z15 bz15 ew15 => ?_)
    replace hF := hF.to (rdb_e (z := z15) ew15.symm)
    refine x_iload C.1 dJ1_indexOfChar_4cfef_17 1 rfl ?_
    refine x_icmp_ne C.1 (tgt := 25) dJ1_indexOfChar_4cfef_19 (by decide) (by omega) (by omega) (fun hc16 => ?_) (fun hc16 => ?_)
    · replace hF := hF.to (if_pos hc16)
      refine x_iinc C.1 (v := z9 + 1) (lv' := [(5, vI (z9 + 1)), (4, vI z1), (0, .ref (aV k0)), (1, vI x1), (2, vI x2), (3, vI x3)]) (by omega) dJ1_indexOfChar_4cfef_25 0 rfl (by decide) rfl ?_
      refine x_goto C.1 (tgt := 7) dJ1_indexOfChar_4cfef_28 (by decide) ?_
      have hmu10 : (2147483648 - (z9 + 1)).toNat < (2147483648 - z9).toNat := (by omega)
      exact ih10 (z9 + 1) ⟨⟨by omega, by omega⟩, ⟨nf10, Nat.lt_of_lt_of_le hmu10 (Nat.le_of_lt_succ hn10), hF⟩⟩ hmu10
    · replace hF := hF.to (if_neg (fun hh => hh hc16))
      refine x_iload C.1 dJ1_indexOfChar_4cfef_22 0 rfl ?_
      exact x_iret (S := Unit) (post := (fun a (u : Unit) => (f_j_indexOfChar k0 x1 x2 x3) a)) (w1 := (fun _ : Unit => [])) (a := z9) C hr rfl dJ1_indexOfChar_4cfef_24 (by omega) () rfl (hF _ rfl)
theorem hd_yJ1_canEncode_9a6ad : yJ1_canEncode_9a6ad.cls ≠ "java/lang/invoke/MethodHandle" ∧ yJ1_canEncode_9a6ad.cls ≠ "java/lang/invoke/VarHandle" ∧ (parseMethodDescriptor yJ1_canEncode_9a6ad.desc).map (fun d => d.parameters.length) = some 1 := by decide +kernel
theorem hd_yJ1_indexOfChar_4cfef : yJ1_indexOfChar_4cfef.cls ≠ "java/lang/invoke/MethodHandle" ∧ yJ1_indexOfChar_4cfef.cls ≠ "java/lang/invoke/VarHandle" ∧ (parseMethodDescriptor yJ1_indexOfChar_4cfef.desc).map (fun d => d.parameters.length) = some 4 := by decide +kernel
theorem dJ1_indexOf_4cfef_0 : decode cJ1_indexOf_4cfef 0 = .ok (.iload_n 1, 1) := by decide +kernel
theorem dJ1_indexOf_4cfef_1 : decode cJ1_indexOf_4cfef 1 = .ok (.invokestatic 88, 3) := by decide +kernel
theorem dJ1_indexOf_4cfef_4 : decode cJ1_indexOf_4cfef 4 = .ok (.ifCond .ne 5, 3) := by decide +kernel
theorem dJ1_indexOf_4cfef_7 : decode cJ1_indexOf_4cfef 7 = .ok (.iconst (-1), 1) := by decide +kernel
theorem dJ1_indexOf_4cfef_8 : decode cJ1_indexOf_4cfef 8 = .ok (.ireturn, 1) := by decide +kernel
theorem dJ1_indexOf_4cfef_9 : decode cJ1_indexOf_4cfef 9 = .ok (.iload_n 2, 1) := by decide +kernel
theorem dJ1_indexOf_4cfef_10 : decode cJ1_indexOf_4cfef 10 = .ok (.iconst 0, 1) := by decide +kernel
theorem dJ1_indexOf_4cfef_11 : decode cJ1_indexOf_4cfef 11 = .ok (.invokestatic 92, 3) := by decide +kernel
theorem dJ1_indexOf_4cfef_14 : decode cJ1_indexOf_4cfef 14 = .ok (.istore_n 2, 1) := by decide +kernel
theorem dJ1_indexOf_4cfef_15 : decode cJ1_indexOf_4cfef 15 = .ok (.iload_n 3, 1) := by decide +kernel
theorem dJ1_indexOf_4cfef_16 : decode cJ1_indexOf_4cfef 16 = .ok (.aload_n 0, 1) := by decide +kernel
theorem dJ1_indexOf_4cfef_17 : decode cJ1_indexOf_4cfef 17 = .ok (.arraylength, 1) := by decide +kernel
theorem dJ1_indexOf_4cfef_18 : decode cJ1_indexOf_4cfef 18 = .ok (.invokestatic 38, 3) := by decide +kernel
theorem dJ1_indexOf_4cfef_21 : decode cJ1_indexOf_4cfef 21 = .ok (.istore_n 3, 1) := by decide +kernel
theorem dJ1_indexOf_4cfef_22 : decode cJ1_indexOf_4cfef 22 = .ok (.iload_n 2, 1) := by decide +kernel
theorem dJ1_indexOf_4cfef_23 : decode cJ1_indexOf_4cfef 23 = .ok (.iload_n 3, 1) := by decide +kernel
theorem dJ1_indexOf_4cfef_24 : decode cJ1_indexOf_4cfef 24 = .ok (.if_icmp .lt 5, 3) := by decide +kernel
theorem dJ1_indexOf_4cfef_27 : decode cJ1_indexOf_4cfef 27 = .ok (.iconst (-1), 1) := by decide +kernel
theorem dJ1_indexOf_4cfef_28 : decode cJ1_indexOf_4cfef 28 = .ok (.ireturn, 1) := by decide +kernel
theorem dJ1_indexOf_4cfef_29 : decode cJ1_indexOf_4cfef 29 = .ok (.aload_n 0, 1) := by decide +kernel
theorem dJ1_indexOf_4cfef_30 : decode cJ1_indexOf_4cfef 30 = .ok (.iload_n 1, 1) := by decide +kernel
theorem dJ1_indexOf_4cfef_31 : decode cJ1_indexOf_4cfef 31 = .ok (.iload_n 2, 1) := by decide +kernel
theorem dJ1_indexOf_4cfef_32 : decode cJ1_indexOf_4cfef 32 = .ok (.iload_n 3, 1) := by decide +kernel
theorem dJ1_indexOf_4cfef_33 : decode cJ1_indexOf_4cfef 33 = .ok (.invokestatic 95, 3) := by decide +kernel
theorem dJ1_indexOf_4cfef_36 : decode cJ1_indexOf_4cfef 36 = .ok (.ireturn, 1) := by decide +kernel
set_option maxRecDepth 100000 in
def f_j_indexOfL (k0 : Nat) (x1 : Int) (x2 : Int) (x3 : Int) : (Int) → Prop :=
  calR (f_j_canEncode x1) fun z1 => fct (0 ≤ z1 ∧ z1 ≤ 1) <| (if ¬ z1 = 0 then rdb (max x2 0) fun z3 => fct (0 ≤ z3 ∧ z3 ≤ 2147483647) <| rdb (min x3 ((zsl k0))) fun z5 => fct (-2147483648 ≤ z5 ∧ z5 ≤ 13) <| (if z3 < z5 then calR (f_j_indexOfChar k0 x1 z3 z5) fun z7 => rtn z7 else rtn ((-1))) else rtn ((-1)))
set_option maxHeartbeats 8000000 in
set_option maxRecDepth 100000 in
theorem j_indexOfL (l : Launch) (D : va_G) (cy : Nat → ClassId) (aK aV : Nat → Nat) (k0 : Nat) (hk0 : k0 < 3) (x1 : Int) (bx1 : -2147483648 ≤ x1 ∧ x1 ≤ 2147483647) (x2 : Int) (bx2 : -2147483648 ≤ x2 ∧ x2 ≤ 2147483647) (x3 : Int) (bx3 : -2147483648 ≤ x3 ∧ x3 ≤ 2147483647) : zMiS l D (xTY cy) aK aV yJ1_indexOf_4cfef cJ1_indexOf_4cfef 4 (some .int) 1 25 0 0 [.ref (aV k0), vI x1, vI x2, vI x3] [] (fun _ : Unit => []) (fun a (u : Unit) => (f_j_indexOfL k0 x1 x2 x3) a) := by
  refine zMiS.mk (lv0 := [(0, .ref (aV k0)), (1, vI x1), (2, vI x2), (3, vI x3)]) (by decide) rfl (Nat.le_of_ble_eq_true rfl) (fun p e s m below meth c A C hr hnm hAe hE => ?_)
  have C : xC2 p s m _ meth c D A s.heap 4 cJ1_indexOf_4cfef RJ1 (xTY cy) := C
  have hF := Imp.of_eq (f_j_indexOfL.eq_def k0 x1 x2 x3)
  refine x_iload_n C.1 dJ1_indexOf_4cfef_0 1 rfl ?_
  refine x_callSi C (As := [vI x1]) (rest := []) (j_canEncode l D cy x1 ⟨by omega, by omega⟩) (l1 := []) (l2 := _) rfl (w2 := fun _ => _) (fun _ => rfl) rfl wm_yJ1_canEncode_9a6ad wn_J1 wl_J1_88 wi_yJ1_canEncode_9a6ad hd_yJ1_canEncode_9a6ad rfl ⟨Nat.le_of_ble_eq_true rfl, Nat.le_of_ble_eq_true rfl⟩ (Nat.le_of_ble_eq_true rfl) ⟨Nat.le_of_ble_eq_true rfl, Nat.le_of_ble_eq_true rfl⟩ dJ1_indexOf_4cfef_1 (fun z1 u1 bz1 h1 => ?_)
  obtain ⟨bq1, hFc1⟩ := h1
  replace hF := calR_i hF hFc1
  replace hF := hF.fc bq1
  refine x_if_ne C.1 (tgt := 9) dJ1_indexOf_4cfef_4 (by decide) (by omega) (fun hc2 => ?_) (fun hc2 => ?_)
  · replace hF := hF.to (if_pos hc2)
    refine x_iload_n C.1 dJ1_indexOf_4cfef_9 2 rfl ?_
    refine x_iconst C.1 (n := 0) dJ1_indexOf_4cfef_10 ?_
    refine x_mmax C wl_J1_92 (by omega) (by decide) dJ1_indexOf_4cfef_11 ⟨Nat.le_of_ble_eq_true rfl, Nat.le_of_ble_eq_true rfl⟩ (Nat.le_of_ble_eq_true rfl) ⟨Nat.le_of_ble_eq_true rfl, Nat.le_of_ble_eq_true rfl⟩ (fun z3 hx3 => ?_)
    have bz3 : 0 ≤ z3 ∧ z3 ≤ 2147483647 := by omega
    replace hF := hF.to (rdb_e (z := z3) (by omega))
    replace hF := hF.fc bz3
    refine x_istore_n C.1 (lv' := [(2, vI z3), (0, .ref (aV k0)), (1, vI x1), (3, vI x3)]) dJ1_indexOf_4cfef_14 (by decide) rfl ?_
    refine x_iload_n C.1 dJ1_indexOf_4cfef_15 3 rfl ?_
    refine x_aload_n C.1 dJ1_indexOf_4cfef_16 1 rfl ?_
    refine x_tlenS C hE hk0 dJ1_indexOf_4cfef_17 ?_
    have hsl4 := zsl_b hk0
    refine x_mmin C wl_J1_38 (by omega) (by omega) dJ1_indexOf_4cfef_18 ⟨Nat.le_of_ble_eq_true rfl, Nat.le_of_ble_eq_true rfl⟩ (Nat.le_of_ble_eq_true rfl) ⟨Nat.le_of_ble_eq_true rfl, Nat.le_of_ble_eq_true rfl⟩ (fun z5 hx5 => ?_)
    have bz5 : -2147483648 ≤ z5 ∧ z5 ≤ 13 := by omega
    replace hF := hF.to (rdb_e (z := z5) (by omega))
    replace hF := hF.fc bz5
    refine x_istore_n C.1 (lv' := [(3, vI z5), (2, vI z3), (0, .ref (aV k0)), (1, vI x1)]) dJ1_indexOf_4cfef_21 (by decide) rfl ?_
    refine x_iload_n C.1 dJ1_indexOf_4cfef_22 1 rfl ?_
    refine x_iload_n C.1 dJ1_indexOf_4cfef_23 0 rfl ?_
    refine x_icmp_lt C.1 (tgt := 29) dJ1_indexOf_4cfef_24 (by decide) (by omega) (by omega) (fun hc6 => ?_) (fun hc6 => ?_)
    · replace hF := hF.to (if_pos hc6)
      refine x_aload_n C.1 dJ1_indexOf_4cfef_29 2 rfl ?_
      refine x_iload_n C.1 dJ1_indexOf_4cfef_30 3 rfl ?_
      refine x_iload_n C.1 dJ1_indexOf_4cfef_31 1 rfl ?_
      refine x_iload_n C.1 dJ1_indexOf_4cfef_32 0 rfl ?_
      refine x_callSiS C hE (As := [.ref (aV k0), vI x1, vI z3, vI z5]) (rest := []) (j_indexOfChar l D cy aK aV k0 hk0 x1 ⟨by omega, by omega⟩ z3 ⟨by omega, by omega⟩ z5 ⟨by omega, by omega⟩ (by omega)) (l1 := []) (l2 := _) rfl (w2 := fun _ => _) (fun _ => rfl) rfl wm_yJ1_indexOfChar_4cfef wn_J1 wl_J1_95 wi_yJ1_indexOfChar_4cfef hd_yJ1_indexOfChar_4cfef rfl ⟨Nat.le_of_ble_eq_true rfl, Nat.le_of_ble_eq_true rfl⟩ (Nat.le_of_ble_eq_true rfl) ⟨Nat.le_of_ble_eq_true rfl, Nat.le_of_ble_eq_true rfl⟩ dJ1_indexOf_4cfef_33 (fun z7 u7 bz7 h7 => ?_)
      have hFc7 := h7
      replace hF := calR_i hF hFc7
      exact x_iret (S := Unit) (post := (fun a (u : Unit) => (f_j_indexOfL k0 x1 x2 x3) a)) (w1 := (fun _ : Unit => [])) (a := z7) C hr rfl dJ1_indexOf_4cfef_36 (by omega) () rfl (hF _ rfl)
    · replace hF := hF.to (if_neg hc6)
      refine x_iconst C.1 (n := -1) dJ1_indexOf_4cfef_27 ?_
      exact x_iret (S := Unit) (post := (fun a (u : Unit) => (f_j_indexOfL k0 x1 x2 x3) a)) (w1 := (fun _ : Unit => [])) (a := (-1)) C hr rfl dJ1_indexOf_4cfef_28 (by decide) () rfl (hF _ rfl)
  · replace hF := hF.to (if_neg (fun hh => hh hc2))
    refine x_iconst C.1 (n := -1) dJ1_indexOf_4cfef_7 ?_
    exact x_iret (S := Unit) (post := (fun a (u : Unit) => (f_j_indexOfL k0 x1 x2 x3) a)) (w1 := (fun _ : Unit => [])) (a := (-1)) C hr rfl dJ1_indexOf_4cfef_8 (by decide) () rfl (hF _ rfl)
theorem hd_yJ0_isLatin1_aae02 : yJ0_isLatin1_aae02.cls ≠ "java/lang/invoke/MethodHandle" ∧ yJ0_isLatin1_aae02.cls ≠ "java/lang/invoke/VarHandle" ∧ (parseMethodDescriptor yJ0_isLatin1_aae02.desc).map (fun d => d.parameters.length) = some 0 := by decide +kernel
theorem hd_yJ0_length_8abf5 : yJ0_length_8abf5.cls ≠ "java/lang/invoke/MethodHandle" ∧ yJ0_length_8abf5.cls ≠ "java/lang/invoke/VarHandle" ∧ (parseMethodDescriptor yJ0_length_8abf5.desc).map (fun d => d.parameters.length) = some 0 := by decide +kernel
theorem hd_yJ1_indexOf_4cfef : yJ1_indexOf_4cfef.cls ≠ "java/lang/invoke/MethodHandle" ∧ yJ1_indexOf_4cfef.cls ≠ "java/lang/invoke/VarHandle" ∧ (parseMethodDescriptor yJ1_indexOf_4cfef.desc).map (fun d => d.parameters.length) = some 4 := by decide +kernel
theorem dJ0_indexOf_7cf53_0 : decode cJ0_indexOf_7cf53 0 = .ok (.aload_n 0, 1) := by decide +kernel
theorem dJ0_indexOf_7cf53_1 : decode cJ0_indexOf_7cf53 1 = .ok (.invokevirtual 492, 3) := by decide +kernel
theorem dJ0_indexOf_7cf53_4 : decode cJ0_indexOf_7cf53 4 = .ok (.ifCond .eq 19, 3) := by decide +kernel
theorem dJ0_indexOf_7cf53_7 : decode cJ0_indexOf_7cf53 7 = .ok (.aload_n 0, 1) := by decide +kernel
theorem dJ0_indexOf_7cf53_8 : decode cJ0_indexOf_7cf53 8 = .ok (.getfield 9, 3) := by decide +kernel
theorem dJ0_indexOf_7cf53_11 : decode cJ0_indexOf_7cf53 11 = .ok (.iload_n 1, 1) := by decide +kernel
theorem dJ0_indexOf_7cf53_12 : decode cJ0_indexOf_7cf53 12 = .ok (.iload_n 2, 1) := by decide +kernel
theorem dJ0_indexOf_7cf53_13 : decode cJ0_indexOf_7cf53 13 = .ok (.aload_n 0, 1) := by decide +kernel
theorem dJ0_indexOf_7cf53_14 : decode cJ0_indexOf_7cf53 14 = .ok (.invokevirtual 505, 3) := by decide +kernel
theorem dJ0_indexOf_7cf53_17 : decode cJ0_indexOf_7cf53 17 = .ok (.invokestatic 637, 3) := by decide +kernel
theorem dJ0_indexOf_7cf53_20 : decode cJ0_indexOf_7cf53 20 = .ok (.goto 16, 3) := by decide +kernel
theorem dJ0_indexOf_7cf53_36 : decode cJ0_indexOf_7cf53 36 = .ok (.ireturn, 1) := by decide +kernel
set_option maxRecDepth 100000 in
def f_j_indexOf2 (k0 : Nat) (x1 : Int) (x2 : Int) : (Int) → Prop :=
  calR (f_j_isLatin1 k0) fun z1 => fct (1 ≤ z1 ∧ z1 ≤ 1) <| calR (f_j_length k0) fun z2 => calR (f_j_indexOfL k0 x1 x2 z2) fun z3 => rtn z3
set_option maxHeartbeats 8000000 in
set_option maxRecDepth 100000 in
theorem j_indexOf2 (l : Launch) (D : va_G) (cy : Nat → ClassId) (aK aV : Nat → Nat) (k0 : Nat) (hk0 : k0 < 3) (x1 : Int) (bx1 : -2147483648 ≤ x1 ∧ x1 ≤ 2147483647) (x2 : Int) (bx2 : -2147483648 ≤ x2 ∧ x2 ≤ 2147483647) : zMiS l D (xTY cy) aK aV yJ0_indexOf_7cf53 cJ0_indexOf_7cf53 3 (some .int) 2 48 0 0 [.ref (aK k0), vI x1, vI x2] [] (fun _ : Unit => []) (fun a (u : Unit) => (f_j_indexOf2 k0 x1 x2) a) := by
  refine zMiS.mk (lv0 := [(0, .ref (aK k0)), (1, vI x1), (2, vI x2)]) (by decide) rfl (Nat.le_of_ble_eq_true rfl) (fun p e s m below meth c A C hr hnm hAe hE => ?_)
  have C : xC2 p s m _ meth c D A s.heap 3 cJ0_indexOf_7cf53 RJ0 (xTY cy) := C
  have hF := Imp.of_eq (f_j_indexOf2.eq_def k0 x1 x2)
  refine x_aload_n C.1 dJ0_indexOf_7cf53_0 0 rfl ?_
  refine x_callJiS C hE hk0 (As := []) (rest := []) (j_isLatin1 l D cy aK aV k0 hk0) (l1 := []) (l2 := _) rfl (w2 := fun _ => _) (fun _ => rfl) rfl wm_yJ0_isLatin1_aae02 wn_J0 wl_J0_492 wi_yJ0_isLatin1_aae02 we_yJ0_isLatin1_aae02 hd_yJ0_isLatin1_aae02 rfl ⟨Nat.le_of_ble_eq_true rfl, Nat.le_of_ble_eq_true rfl⟩ (Nat.le_of_ble_eq_true rfl) ⟨Nat.le_of_ble_eq_true rfl, Nat.le_of_ble_eq_true rfl⟩ dJ0_indexOf_7cf53_1 (fun z1 u1 bz1 h1 => ?_)
  obtain ⟨bq1, hFc1⟩ := h1
  replace hF := calR_i hF hFc1
  replace hF := hF.fc bq1
  refine x_if_eq_f C.1 (tgt := 23) dJ0_indexOf_7cf53_4 (by decide) (by omega) (by omega) ?_
  refine x_aload_n C.1 dJ0_indexOf_7cf53_7 0 rfl ?_
  refine x_fval C hE hk0 dJ0_indexOf_7cf53_8 ?_
  refine x_iload_n C.1 dJ0_indexOf_7cf53_11 1 rfl ?_
  refine x_iload_n C.1 dJ0_indexOf_7cf53_12 2 rfl ?_
  refine x_aload_n C.1 dJ0_indexOf_7cf53_13 0 rfl ?_
  refine x_callJiS C hE hk0 (As := []) (rest := [vI x2, vI x1, .ref (aV k0)]) (j_length l D cy aK aV k0 hk0) (l1 := []) (l2 := _) rfl (w2 := fun _ => _) (fun _ => rfl) rfl wm_yJ0_length_8abf5 wn_J0 wl_J0_505 wi_yJ0_length_8abf5 we_yJ0_length_8abf5 hd_yJ0_length_8abf5 rfl ⟨Nat.le_of_ble_eq_true rfl, Nat.le_of_ble_eq_true rfl⟩ (Nat.le_of_ble_eq_true rfl) ⟨Nat.le_of_ble_eq_true rfl, Nat.le_of_ble_eq_true rfl⟩ dJ0_indexOf_7cf53_14 (fun z2 u2 bz2 h2 => ?_)
  have hFc2 := h2
  replace hF := calR_i hF hFc2
  refine x_callSiS C hE (As := [.ref (aV k0), vI x1, vI x2, vI z2]) (rest := []) (j_indexOfL l D cy aK aV k0 hk0 x1 ⟨by omega, by omega⟩ x2 ⟨by omega, by omega⟩ z2 ⟨by omega, by omega⟩) (l1 := []) (l2 := _) rfl (w2 := fun _ => _) (fun _ => rfl) rfl wm_yJ1_indexOf_4cfef wn_J1 wl_J0_637 wi_yJ1_indexOf_4cfef hd_yJ1_indexOf_4cfef rfl ⟨Nat.le_of_ble_eq_true rfl, Nat.le_of_ble_eq_true rfl⟩ (Nat.le_of_ble_eq_true rfl) ⟨Nat.le_of_ble_eq_true rfl, Nat.le_of_ble_eq_true rfl⟩ dJ0_indexOf_7cf53_17 (fun z3 u3 bz3 h3 => ?_)
  have hFc3 := h3
  replace hF := calR_i hF hFc3
  refine x_goto C.1 (tgt := 36) dJ0_indexOf_7cf53_20 (by decide) ?_
  exact x_iret (S := Unit) (post := (fun a (u : Unit) => (f_j_indexOf2 k0 x1 x2) a)) (w1 := (fun _ : Unit => [])) (a := z3) C hr rfl dJ0_indexOf_7cf53_36 (by omega) () rfl (hF _ rfl)
theorem hd_yJ0_indexOf_7cf53 : yJ0_indexOf_7cf53.cls ≠ "java/lang/invoke/MethodHandle" ∧ yJ0_indexOf_7cf53.cls ≠ "java/lang/invoke/VarHandle" ∧ (parseMethodDescriptor yJ0_indexOf_7cf53.desc).map (fun d => d.parameters.length) = some 2 := by decide +kernel
theorem dJ0_indexOf_0f7a4_0 : decode cJ0_indexOf_0f7a4 0 = .ok (.aload_n 0, 1) := by decide +kernel
theorem dJ0_indexOf_0f7a4_1 : decode cJ0_indexOf_0f7a4 1 = .ok (.iload_n 1, 1) := by decide +kernel
theorem dJ0_indexOf_0f7a4_2 : decode cJ0_indexOf_0f7a4 2 = .ok (.iconst 0, 1) := by decide +kernel
theorem dJ0_indexOf_0f7a4_3 : decode cJ0_indexOf_0f7a4 3 = .ok (.invokevirtual 633, 3) := by decide +kernel
theorem dJ0_indexOf_0f7a4_6 : decode cJ0_indexOf_0f7a4 6 = .ok (.ireturn, 1) := by decide +kernel
set_option maxRecDepth 100000 in
def f_j_indexOf (k0 : Nat) (x1 : Int) : (Int) → Prop :=
  calR (f_j_indexOf2 k0 x1 0) fun z1 => rtn z1
set_option maxHeartbeats 8000000 in
set_option maxRecDepth 100000 in
theorem j_indexOf (l : Launch) (D : va_G) (cy : Nat → ClassId) (aK aV : Nat → Nat) (k0 : Nat) (hk0 : k0 < 3) (x1 : Int) (bx1 : -2147483648 ≤ x1 ∧ x1 ≤ 2147483647) : zMiS l D (xTY cy) aK aV yJ0_indexOf_0f7a4 cJ0_indexOf_0f7a4 2 (some .int) 3 70 0 0 [.ref (aK k0), vI x1] [] (fun _ : Unit => []) (fun a (u : Unit) => (f_j_indexOf k0 x1) a) := by
  refine zMiS.mk (lv0 := [(0, .ref (aK k0)), (1, vI x1)]) (by decide) rfl (Nat.le_of_ble_eq_true rfl) (fun p e s m below meth c A C hr hnm hAe hE => ?_)
  have C : xC2 p s m _ meth c D A s.heap 2 cJ0_indexOf_0f7a4 RJ0 (xTY cy) := C
  have hF := Imp.of_eq (f_j_indexOf.eq_def k0 x1)
  refine x_aload_n C.1 dJ0_indexOf_0f7a4_0 0 rfl ?_
  refine x_iload_n C.1 dJ0_indexOf_0f7a4_1 1 rfl ?_
  refine x_iconst C.1 (n := 0) dJ0_indexOf_0f7a4_2 ?_
  refine x_callJiS C hE hk0 (As := [vI x1, vI 0]) (rest := []) (j_indexOf2 l D cy aK aV k0 hk0 x1 ⟨by omega, by omega⟩ 0 ⟨by decide, by decide⟩) (l1 := []) (l2 := _) rfl (w2 := fun _ => _) (fun _ => rfl) rfl wm_yJ0_indexOf_7cf53 wn_J0 wl_J0_633 wi_yJ0_indexOf_7cf53 we_yJ0_indexOf_7cf53 hd_yJ0_indexOf_7cf53 rfl ⟨Nat.le_of_ble_eq_true rfl, Nat.le_of_ble_eq_true rfl⟩ (Nat.le_of_ble_eq_true rfl) ⟨Nat.le_of_ble_eq_true rfl, Nat.le_of_ble_eq_true rfl⟩ dJ0_indexOf_0f7a4_3 (fun z1 u1 bz1 h1 => ?_)
  have hFc1 := h1
  replace hF := calR_i hF hFc1
  exact x_iret (S := Unit) (post := (fun a (u : Unit) => (f_j_indexOf k0 x1) a)) (w1 := (fun _ : Unit => [])) (a := z1) C hr rfl dJ0_indexOf_0f7a4_6 (by omega) () rfl (hF _ rfl)
end
