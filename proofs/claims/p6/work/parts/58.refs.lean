-- what hands back a reference, a reference put into an array
theorem Sp.all {z : Int} {P : Prop} (h : P) (hz : 0 ≤ z ∧ z ≤ 1) : Sp z P := by
  rcases (show z = 0 ∨ z = 1 by omega) with h1 | h1
  · exact Or.inl h1
  · exact Or.inr ⟨h1, h⟩
def zMr (l : Launch) (D : va_G) (TY : List (ClassId × FieldType)) (ad : Nat → Nat) (y : MethodName) (cc : ByteArray) (maxL : Nat) (ret : Option FieldType) (fr lo mc ms : Nat) (av : List Value) (wc : va_W) {S : Type} (w1 : S → va_W) (post : Nat → S → Prop) : Prop := ∀ sz : Nat, Met l y (Cond.code y cc maxL ret :: WG) ({ frames := fr, cells := mc, slots := ms, locals := lo }) (va_Pc av (xPre D TY wc sz)) (va_Qr (fun v : Nat × S => post v.1 v.2) (fun v q t => q = ad v.1 ∧ xB D (va_A wc sz) w1 v.2 t) (va_A wc sz)) mc ms (va_A wc sz)
section XRL
variable {p : Program} {l : Launch} {e : Env} {R : Room} {s : State} {m : MethodId} {args : Array Value} {below : List Frame} {meth : Method} {c : Code} {cells slots : Nat} {Q : State → Prop}
variable {D : va_G} {A : Nat → Prop} {H0 : Heap} {nL : Nat} {ws : va_W} {pc : Nat} {lv : List (Nat × Value)} {st rest : List Value} {cc : ByteArray} {own : String} {TY : List (ClassId × FieldType)} {ad : Nat → Nat}
theorem x_callVr (C : xC2 p s m args meth c D A H0 nL cc own TY) {y : MethodName} {bytes : ByteArray} {maxL fr lo mc ms n index : Nat} {ret : Option FieldType} {As : List Value} {wc : va_W} {S : Type} {w1 : S → va_W} {post : Nat → S → Prop} {b : Nat} {Cn : String} {T : u_T} {NN ci : Nat} {fs : List Value} (q0 : Nat) (he : ws[q0]? = some (b, .inr (ci, fs))) (hcl : vwCl[ci]? = some (Cn, T, NN)) (hM : zMr l D TY ad y bytes maxL ret fr lo mc ms (.ref b :: As) wc w1 post) {l1 l2 : va_W} (hws : ws = l1 ++ wc ++ l2) {w2 : S → va_W} (hw2 : ∀ u, l1 ++ w1 u ++ l2 = w2 u) (hst : st = As.reverse ++ .ref b :: rest) (hcode : Cond.code y bytes maxL ret ∈ WG) (hini : Cond.initialized y.cls ∈ WG) (hlink : Cond.methodLink own index y ∈ WG) (hst2 : Cond.instanceMethod y ∈ WG) (hsel : Cond.selects Cn y y ∈ WG) (hd2 : y.cls ≠ "java/lang/invoke/MethodHandle" ∧ y.cls ≠ "java/lang/invoke/VarHandle" ∧ (parseMethodDescriptor y.desc).map (fun d => d.parameters.length) = some n) (hn : As.length = n) (hR : fr + 1 ≤ R.frames ∧ 8 + (maxL + 11) + lo ≤ R.locals) (hW : (rest.map fun v => v.category).sum ≤ 8) (hf : cells + mc ≤ R.cells ∧ slots + ms ≤ R.slots) (hdg : decode cc pc = .ok (.invokevirtual index, 3)) (kk : ∀ (q : Nat) (u : S), post q u → xW p l e R s m args below meth c D A H0 nL (cells + mc) (slots + ms) Q (w2 u) (pc + 3) lv (.ref (ad q) :: rest)) : xW p l e R s m args below meth c D A H0 nL cells slots Q ws pc lv st := by
  subst hst
  intro H locs la hP hD hS hl
  have hF := xfree (D := D) hws hD hS C.1.2.2.2.2.2.2.1
  refine va_callr (va_runV C.fix (hM H.size) ⟨callB_of n C.1.2.2.2.2.1 (WG_good2 _ hcode) rfl rfl rfl (C.1.2.2.2.2.1 _ hini) (C.1.2.2.2.2.1 _ hlink) hd2 hR, C.1.2.2.2.2.1 _ hst2, C.1.2.2.2.2.1 _ hsel⟩ ⟨xPre.blind, va_recv C.1.2.2.2.2.2.1 hP hcl he, fun U hU hW => ⟨rfl, by rw [hU], by rw [hU]; exact xsubP hws hP, xK.warm hW C.K, xsubD hws hD⟩⟩ rfl hn hl.1 rfl (lv_room hW) hdg hf) hS (fun q _ h => hF q h) hF (fun u ra t H1 locs ht hvm hw hB hz1 hk1 hS => ?_)
  obtain ⟨hra, hP1, hD1⟩ := hB
  subst hra
  rw [ht] at hP1
  obtain ⟨hP2, hD2⟩ := xframe hws hP hD hk1 hF hP1 hD1
  rw [hw2] at hP2 hD2
  exact kk u.1 u.2 hw H1 locs la hP2 hD2 hS hl
theorem zMr.mk {y : MethodName} {bytes : ByteArray} {maxL fr lo mc ms : Nat} {ret : Option FieldType} {av : List Value} {wc : va_W} {S : Type} {w1 : S → va_W} {post : Nat → S → Prop} {lv0 : List (Nat × Value)} (hy : plainName y.cls = true) (hlv : lv_args 0 av = lv0) (hl : (lg_sl av).length ≤ maxL)
    (body : ∀ (p : Program) (e : Env) (s : State) (m : MethodId) (below : List Frame) (meth : Method) (c : Code) (A : Nat → Prop), xC2 p s m av.toArray meth c D A s.heap maxL bytes y.cls TY → meth.sig.returnType = ret → meth.name = y.name → A = va_A wc s.heap.size → xW p l e ({ frames := fr, cells := mc, slots := ms, locals := lo }) s m av.toArray below meth c D A s.heap maxL 0 0 (MQ below (va_Qr (fun v : Nat × S => post v.1 v.2) (fun v q t => q = ad v.1 ∧ xB D A w1 v.2 t) A) av.toArray s mc ms A) wc 0 lv0 []) : zMr l D TY ad y bytes maxL ret fr lo mc ms av wc w1 post := by
  intro sz
  refine Met.ofW (cc := bytes) (maxL := maxL) (ret := ret) hy rfl ?_
  intro p e s m args below meth c s₁ B hml hv
  obtain ⟨rfl, hsz, hP, hK, hD0⟩ := hv
  have hts := atoms_spec (ws := Cond.code y bytes maxL ret :: WG) B.pre
  have hown : s.vm.findClass y.cls = some m.cls := findClass_of_methodNamed B.named
  subst hsz
  subst hlv
  rw [lg_entry_eq]
  exact body p e s m below meth c (va_A wc s.heap.size) ⟨⟨B.exec, B.bytes, hml, hown, fun w h => hts w (List.mem_cons_of_mem _ h), hK.1, fun q h => Or.inr h, B.notSynchronized⟩, hK.2⟩ B.returns (name_of_methodNamed B.named B.method).1 rfl s.heap [] _ hP (hD0.self (sz := s.heap.size)) va_S.rf (lv_entry av hl)
theorem x_aret {S : Type} {w1 : S → va_W} {post : Nat → S → Prop} {a : Nat} {nm : String} (C : xC2 p s m args meth c D A H0 nL cc own TY) (hr : meth.sig.returnType = some (.object nm)) (hH : H0 = s.heap) (hd : decode cc pc = .ok (.areturn, 1)) (u : S) (hw : ws = w1 u) (hp : post a u) : xW p l e R s m args below meth c D A H0 nL cells slots (MQ below (va_Qr (fun v : Nat × S => post v.1 v.2) (fun v q t => q = ad v.1 ∧ xB D A w1 v.2 t) A) args s cells slots A) ws pc lv [.ref (ad a)] := by
  subst hw; subst hH
  intro H locs la hP hD hS hl
  exact W.aret C.1.1 C.1.2.1 hr (Or.inl ⟨_, rfl⟩) (Or.inr ⟨_, rfl⟩) (fun t ht hW => ⟨⟨(a, u), ad a, rfl, hp, rfl, by rw [ht]; exact hP, hD⟩, hS.F ht⟩) hS.2.2 hd C.1.2.2.2.2.2.2.2
variable {N : Nat} {dsc : Nat → xD} {cy : Nat → ClassId} {V J : Nat → Nat → Int} {Rr : Nat → Nat → Nat}
theorem x_astR (C : xC2 p s m args meth c D A H0 nL cc own (xTY cy)) {t : Nat} {r : vw_C} (ht : (xTY cy)[t]? = some (cy t, .object r.1)) {i n b d j ci : Nat} {ks : List Nat} {q : Int} (hi : i < N) (hds : dsc i = .inr (t, n, 2, b, d)) (hj : j < N) (hdj : dsc j = .inl (ci, ks)) (hc : vwCl[ci]? = some r) (hq : 0 ≤ q ∧ q < n) (hn : n < 2147483648) (hd : decode cc pc = .ok (.aastore, 1)) (kk : xW p l e R s m args below meth c D A H0 nL cells slots Q (xw N dsc cy ad V J (up2 Rr i q.toNat j)) (pc + 1) lv st) : xW p l e R s m args below meth c D A H0 nL cells slots Q (xw N dsc cy ad V J Rr) pc lv (.ref (ad j) :: vI q :: .ref (ad i) :: st) := by
  intro H locs la hP hD hS hl
  have hA := xw_at (cy := cy) (ad := ad) (V := V) (J := J) (Rr := Rr) hi hds
  have hB := xw_at (cy := cy) (ad := ad) (V := V) (J := J) (Rr := Rr) hj hdj
  refine va_astq C.1.1 C.1.2.1 C.1.2.2.2.2.2.1 hP hD hS i t j ci (r := r) hA ht hB hc (xi_in hq hn) hd (fun H1 locs1 hP1 hD1 hS1 => ?_)
  have e1 : (xw N dsc cy ad V J Rr).set i (ad i, .inl (cy t, n, .inr (.inr (.inr (.inr (va_up (fun k => some (ad (Rr i k))) (Int32.ofInt q).toNatClampNeg (some (ad j)))))))) = xw N dsc cy ad V J (up2 Rr i q.toNat j) := by
    refine xw_set hi ?_ (fun j hj => rfl) (fun j hj => rfl) (fun j hj => up2_c _ _ hj)
    rw [hds]
    have e : va_up (fun k => some (ad (Rr i k))) (Int32.ofInt q).toNatClampNeg (some (ad j)) = fun k => some (ad (up2 Rr i q.toNat j i k)) := by
      funext k
      rw [xi_nat (a := q) ⟨by omega, by omega⟩]
      simp only [va_up, up2, up1, if_true]
      split <;> rfl
    rw [e]
    rfl
  rw [e1] at hP1 hD1
  exact kk H1 locs1 la hP1 hD1 hS1 hl
end XRL
theorem prT_T2 {t : Nat} (h : isTx t) (k : Nat) : prT (t + 2) k = false := by
  rcases h with rfl | rfl | rfl | rfl | rfl | rfl <;> rfl
theorem prT_T3 {t : Nat} (h : isTx t) (k : Nat) : prT (t + 3) k = false := by
  rcases h with rfl | rfl | rfl | rfl | rfl | rfl <;> rfl
theorem prT_T4 {t : Nat} (h : isTx t) (k : Nat) : prT (t + 4) k = false := by
  rcases h with rfl | rfl | rfl | rfl | rfl | rfl <;> rfl
/-- as XI, nothing watched -/
def XU (_G V : Nat → Nat → Int) : Prop := XI V V
theorem XU.rd {G V : Nat → Nat → Int} (h : XU G V) (i k : Nat) {x y : Int} (hr : rgX i k = (x, y)) : ∃ z : Int, V i k = z ∧ x ≤ z ∧ z ≤ y := XI.rd h i k hr
theorem XU.vr {G V : Nat → Nat → Int} (h : XU G V) : VR V := XI.vr h
theorem XI.toU {G V : Nat → Nat → Int} (h : XI G V) : XI V V := fun i k => ⟨(h i k).1, fun _ => rfl⟩
theorem XU.up {G V W : Nat → Nat → Int} (h : XU G V) {i k : Nat} {a : Int} (hW : W = up2 V i k a) {x y : Int} (hr : rgX i k = (x, y)) (ha : x ≤ a ∧ a ≤ y) (_ : True) : XU G W := by
  subst hW
  intro j q
  refine ⟨?_, fun _ => rfl⟩
  by_cases e : j = i ∧ q = k
  · obtain ⟨rfl, rfl⟩ := e
    rw [up2_s, hr]
    exact ha
  · rw [up2_n _ _ (by omega)]
    exact (h j q).1
theorem XU.cp {G V W : Nat → Nat → Int} (h : XU G V) {i sp j dp n : Nat} (hW : W = cpV V i sp j dp n) {x y : Int} (hi : ∀ k, rgX i k = (x, y)) (hj : ∀ k, rgX j k = (x, y)) (_ : ∀ k, prX j k = false) : XU G W := by
  subst hW
  intro q k
  refine ⟨?_, fun _ => rfl⟩
  unfold cpV
  split
  · next hh =>
    obtain ⟨rfl, -, -⟩ := hh
    have := (h i (sp + (k - dp))).1
    rw [hi] at this
    rw [hj]
    exact this
  · exact (h q k).1
