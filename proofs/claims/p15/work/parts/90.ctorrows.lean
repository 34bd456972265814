section XG
variable {p : Program} {l : Launch} {e : Env} {R : Room} {s : State} {m : MethodId} {args : Array Value} {below : List Frame} {meth : Method} {c : Code} {cells slots : Nat} {Q : State → Prop}
variable {D : va_G} {A : Nat → Prop} {H0 : Heap} {nL : Nat} {ws : va_W} {pc : Nat} {lv : List (Nat × Value)} {st : List Value} {cc : ByteArray} {own : String} {cy : Nat → ClassId}
theorem x_lw {ws2 : va_W} (h : ws = ws2) (k : xW p l e R s m args below meth c D A H0 nL cells slots Q ws2 pc lv st) : xW p l e R s m args below meth c D A H0 nL cells slots Q ws pc lv st := by subst h; exact k
theorem x_gobj (C : xC2 p s m args meth c D A H0 nL cc own (xTY cy)) {index : Nat} {a : Nat} (hlink : Cond.methodLink own index objectInit ∈ WG) (hd : decode cc pc = .ok (.invokespecial index, 3)) (hf : 1 ≤ R.frames) (hlo : (st.map fun v => v.category).sum + 12 ≤ R.locals) (k : xW p l e R s m args below meth c D A H0 nL cells slots Q ws (pc + 3) lv st) : xW p l e R s m args below meth c D A H0 nL cells slots Q ws pc lv (.ref a :: st) := by
  intro H locs la hP hD hS hl
  refine W.objInit C.1.1 C.1.2.1 C.1.2.2.2.1 (C.1.2.2.2.2.1 _ hlink) (C.1.2.2.2.2.1 _ wi_objectInit) (C.1.2.2.2.2.1 _ wm_objectInit) rfl (by rw [C.1.2.2.1]; exact hl.1) rfl hd hf (by show 2 * 0 + _ + 12 ≤ _; omega) ?_
  exact k H locs la hP hD hS hl
theorem x_gget (C : xC2 p s m args meth c D A H0 nL cc own (xTY cy)) {a : Nat} {ci : Nat} {fs : List Value} (q0 : Nat) (he : ws[q0]? = some (a, .inr (ci, fs))) {Cn : String} {T : u_T} {NN index : Nat} (hc : vwCl[ci]? = some (Cn, T, NN)) (hin : ∀ w ∈ u_ws Cn T NN, w ∈ WG) (k : Nat) (hk : k < NN) (hw : Cond.fieldLink own index (T k).1 (T k).2.1 (T k).2.2.1 ∈ WG) {v : Value} (hv : fs[k]? = some v) (hd : decode cc pc = .ok (.getfield index, 3)) (kk : xW p l e R s m args below meth c D A H0 nL cells slots Q ws (pc + 3) lv (v :: st)) : xW p l e R s m args below meth c D A H0 nL cells slots Q ws pc lv (.ref a :: st) :=
  fun H locs la hP hD hS hl => va_get C.1.1 C.1.2.1 C.1.2.2.2.2.1 hin C.1.2.2.2.1 C.1.2.2.2.2.2.1 hP q0 he hc k hk (C.1.2.2.2.2.1 _ hw) (fun _ h => h) hv hd (kk H locs la hP hD hS hl)
theorem x_gput (C : xC2 p s m args meth c D A H0 nL cc own (xTY cy)) {a : Nat} {ci : Nat} {fs : List Value} (q0 : Nat) (he : ws[q0]? = some (a, .inr (ci, fs))) {Cn : String} {T : u_T} {NN index : Nat} (hc : vwCl[ci]? = some (Cn, T, NN)) (hin : ∀ w ∈ u_ws Cn T NN, w ∈ WG) (k : Nat) (hk : k < NN) (hw : Cond.fieldLink own index (T k).1 (T k).2.1 (T k).2.2.1 ∈ WG) (ty0 : Nat → FieldType) (hty : ∀ k, k < NN → parseFieldDescriptor (T k).2.2.1 = some (ty0 k)) (hnm : ∀ a, a < NN → ∀ b, b < NN → a ≠ b → (T a).2.1 ≠ (T b).2.1) (hfin : (T k).2.2.2 = false) {ty : FieldType} (hpd : parseFieldDescriptor (T k).2.2.1 = some ty) {v : Value} (hnar : narrow ty v = v) (hfit : fits ty v = true) (hl : k < fs.length) (hd : decode cc pc = .ok (.putfield index, 3)) {ws2 : va_W} (hws : ws.set q0 (a, .inr (ci, fs.set k v)) = ws2) (kk : xW p l e R s m args below meth c D A H0 nL cells slots Q ws2 (pc + 3) lv st) : xW p l e R s m args below meth c D A H0 nL cells slots Q ws pc lv (v :: .ref a :: st) := by
  intro H locs la hP hD hS hlv
  refine va_put C.1.1 C.1.2.1 C.1.2.2.2.2.1 hin ty0 hty hnm C.1.2.2.2.1 C.1.2.2.2.2.2.1 hP hD hS q0 he hc k hk (C.1.2.2.2.2.1 _ hw) (fun _ h => h) hfin hpd hnar hfit hl hd (fun H1 locs1 hP1 hD1 hS1 => ?_)
  rw [hws] at hP1 hD1
  exact kk H1 locs1 la hP1 hD1 hS1 hlv
theorem x_gputF (C : xC2 p s m args meth c D A H0 nL cc own (xTY cy)) {a : Nat} {ci : Nat} {fs : List Value} (q0 : Nat) (he : ws[q0]? = some (a, .inr (ci, fs))) {Cn : String} {T : u_T} {NN index : Nat} (hc : vwCl[ci]? = some (Cn, T, NN)) (hin : ∀ w ∈ u_ws Cn T NN, w ∈ WG) (k : Nat) (hk : k < NN) (hw : Cond.fieldLink own index (T k).1 (T k).2.1 (T k).2.2.1 ∈ WG) (ty0 : Nat → FieldType) (hty : ∀ k, k < NN → parseFieldDescriptor (T k).2.2.1 = some (ty0 k)) (hnm : ∀ a, a < NN → ∀ b, b < NN → a ≠ b → (T a).2.1 ≠ (T b).2.1) (hfin : (T k).2.2.2 = true) (hin2 : meth.name = "<init>") (hdecl : (T k).1 = own) {ty : FieldType} (hpd : parseFieldDescriptor (T k).2.2.1 = some ty) {v : Value} (hnar : narrow ty v = v) (hfit : fits ty v = true) (hl : k < fs.length) (hd : decode cc pc = .ok (.putfield index, 3)) {ws2 : va_W} (hws : ws.set q0 (a, .inr (ci, fs.set k v)) = ws2) (kk : xW p l e R s m args below meth c D A H0 nL cells slots Q ws2 (pc + 3) lv st) : xW p l e R s m args below meth c D A H0 nL cells slots Q ws pc lv (v :: .ref a :: st) := by
  intro H locs la hP hD hS hlv
  refine va_putF C.1.1 C.1.2.1 C.1.2.2.2.2.1 hin ty0 hty hnm C.1.2.2.2.1 C.1.2.2.2.2.2.1 hP hD hS q0 he hc k hk (C.1.2.2.2.2.1 _ hw) (fun _ h => h) hfin hin2 hdecl hpd hnar hfit hl hd (fun H1 locs1 hP1 hD1 hS1 => ?_)
  rw [hws] at hP1 hD1
  exact kk H1 locs1 la hP1 hD1 hS1 hlv
theorem x_gnew (C : xC2 p s m args meth c D A H0 nL cc own (xTY cy)) {Cn : String} {T : u_T} {NN ci index : Nat} (hcl : Cond.classLink own index Cn ∈ WG) (hinst : Cond.instantiable Cn NN ∈ WG) (hini : Cond.initialized Cn ∈ WG) (hin : ∀ w ∈ u_ws Cn T NN, w ∈ WG) (ty : Nat → FieldType) (hty : ∀ k, k < NN → parseFieldDescriptor (T k).2.2.1 = some (ty k)) (hc : vwCl[ci]? = some (Cn, T, NN)) {fs : List Value} (hfs : ∀ j, j < NN → defaultValue (ty j) = vp_V fs j) (hcells : cells + 1 ≤ R.cells) (hslots : slots + NN ≤ R.slots) (hd : decode cc pc = .ok (.new index, 3)) {ws2 : Nat → va_W} (hws : ∀ q, ws ++ [(q, .inr (ci, fs))] = ws2 q) (kk : ∀ q : Nat, xW p l e R s m args below meth c D A H0 nL (cells + 1) (slots + NN) Q (ws2 q) (pc + 3) lv (.ref q :: st)) : xW p l e R s m args below meth c D A H0 nL cells slots Q ws pc lv st := by
  intro H locs la hP hD hS hl
  refine va_new C.1.1 C.1.2.1 C.1.2.2.2.2.1 hin ty hty C.1.2.2.2.1 (C.1.2.2.2.2.1 _ hcl) (C.1.2.2.2.2.1 _ hinst) (C.1.2.2.2.2.1 _ hini) C.1.2.2.2.2.2.1 hP hD hS C.1.2.2.2.2.2.2.1 hc hfs hcells hslots hd (fun q H1 hP1 hD1 hS1 => ?_)
  rw [hws] at hP1 hD1
  exact kk q H1 locs la hP1 hD1 hS1 hl
theorem x_gnewa (C : xC2 p s m args meth c D A H0 nL cc own (xTY cy)) {atype : ArrayType} {ty : FieldType} (hty : newarray.typeOf atype = ty) (hwd : Cond.arrayClass ty ∈ WG) {t : Nat} (ht : (xTY cy)[t]? = some (cy t, ty)) (hprim : ∀ (U : State) (cA : ClassId), va_RA U cA ty → U.vm.findClass ("[" ++ ty.toString) = some cA) {N' : Nat} {a0 : vp_A} (ha : ∀ cA : ClassId, vp_cell cA a0 = arrV cA N' (fun _ => defaultValue ty)) (hN : N' < 2147483648) (hbytes : N' * componentBytes ty ≤ 536870912) (hcells : cells + 1 ≤ R.cells) (hslots : slots + N' ≤ R.slots) (hd : decode cc pc = .ok (.newarray atype, 2)) {ws2 : Nat → va_W} (hws : ∀ q, ws ++ [(q, .inl (cy t, a0))] = ws2 q) (kk : ∀ q : Nat, xW p l e R s m args below meth c D A H0 nL (cells + 1) (slots + N') Q (ws2 q) (pc + 2) lv (.ref q :: st)) : xW p l e R s m args below meth c D A H0 nL cells slots Q ws pc lv (vI (N' : Int) :: st) := by
  intro H locs la hP hD hS hl
  have r : R32 (N' : Int) := ⟨by omega, by omega⟩
  subst hty
  refine va_newa C.1.1 C.1.2.1 (C.1.2.2.2.2.1 _ hwd) rfl C.1.2.2.2.2.2.1 hP hD hS C.1.2.2.2.2.2.2.1 ha (fun h => by have := (xi_lt (b := 0) r (by decide)).mp h; omega) (by rw [xi_nat r]; omega) hbytes hcells hslots hd (fun q cA H1 hK1 hP1 hD1 hS1 => ?_)
  have e1 := hprim _ _ (hK1.2 (xTY cy).length (cA, newarray.typeOf atype) (by simp)).2
  have e2 := hprim _ _ (C.1.2.2.2.2.2.1.2 t _ ht).2
  have e3 : cA = cy t := Option.some.inj (e1.symm.trans e2)
  subst e3
  rw [hws] at hP1 hD1
  exact kk q H1 locs la hP1 hD1 hS1 hl
theorem x_gnewq (C : xC2 p s m args meth c D A H0 nL cc own (xTY cy)) {Cn : String} {index : Nat} (hcl : Cond.classLink own index Cn ∈ WG) (hov : Cn ∈ [RX5, RX4, RX9]) {t : Nat} (ht : (xTY cy)[t]? = some (cy t, .object Cn)) {N' : Nat} (hN : N' < 2147483648) (hbytes : N' * 4 ≤ 536870912) (hcells : cells + 1 ≤ R.cells) (hslots : slots + N' ≤ R.slots) (hd : decode cc pc = .ok (.anewarray index, 3)) {ws2 : Nat → va_W} (hws : ∀ q, ws ++ [(q, .inl (cy t, N', .inr (.inr (.inr (.inr (fun _ => none))))))] = ws2 q) (kk : ∀ q : Nat, xW p l e R s m args below meth c D A H0 nL (cells + 1) (slots + N') Q (ws2 q) (pc + 3) lv (.ref q :: st)) : xW p l e R s m args below meth c D A H0 nL cells slots Q ws pc lv (vI (N' : Int) :: st) := by
  intro H locs la hP hD hS hl
  have r : R32 (N' : Int) := ⟨by omega, by omega⟩
  refine va_newq C.1.1 C.1.2.1 C.1.2.2.2.1 (C.1.2.2.2.2.1 _ hcl) (C.2.1 _ hov) C.1.2.2.2.2.2.1 hP hD hS C.1.2.2.2.2.2.2.1 (fun h => by have := (xi_lt (b := 0) r (by decide)).mp h; omega) (N' := N') (by rw [xi_nat r]; omega) hbytes hcells hslots hd (fun q cA H1 hK1 hP1 hD1 hS1 => ?_)
  obtain ⟨_, _, _, _, _, e1⟩ := (hK1.2 (xTY cy).length (cA, .object Cn) (by simp)).2
  obtain ⟨_, _, _, _, _, e2⟩ := (C.1.2.2.2.2.2.1.2 t _ ht).2
  have e3 : cA = cy t := Option.some.inj (e1.symm.trans e2)
  subst e3
  rw [hws] at hP1 hD1
  exact kk q H1 locs la hP1 hD1 hS1 hl
theorem x_gastq (C : xC2 p s m args meth c D A H0 nL cc own (xTY cy)) {t : Nat} {r : vw_C} (ht : (xTY cy)[t]? = some (cy t, .object r.1)) {a n v ci : Nat} {vs : List Value} {f : Nat → Option Nat} (q0 qk : Nat) (ha : ws[q0]? = some (a, .inl (cy t, n, .inr (.inr (.inr (.inr f)))))) (hv : ws[qk]? = some (v, .inr (ci, vs))) (hc : vwCl[ci]? = some r) (i : Nat) (hi : i < n) (hn : n < 2147483648) (hd : decode cc pc = .ok (.aastore, 1)) {ws2 : va_W} (hws : ws.set q0 (a, .inl (cy t, n, .inr (.inr (.inr (.inr (va_up f i (some v))))))) = ws2) (kk : xW p l e R s m args below meth c D A H0 nL cells slots Q ws2 (pc + 1) lv st) : xW p l e R s m args below meth c D A H0 nL cells slots Q ws pc lv (.ref v :: vI (i : Int) :: .ref a :: st) := by
  intro H locs la hP hD hS hl
  refine va_astq C.1.1 C.1.2.1 C.1.2.2.2.2.2.1 hP hD hS q0 t qk ci (r := r) ha ht hv hc (xi_in (a := (i : Int)) (by omega) hn) hd (fun H1 locs1 hP1 hD1 hS1 => ?_)
  rw [xi_nat ⟨by omega, by omega⟩, Int.toNat_natCast, hws] at hP1 hD1
  exact kk H1 locs1 la hP1 hD1 hS1 hl
theorem x_giast (C : xC2 p s m args meth c D A H0 nL cc own (xTY cy)) {a n : Nat} {f : Nat → Int32} {x : Int} (q0 : Nat) (ha : ws[q0]? = some (a, .inl (cy 0, n, .inl f))) (i : Nat) (hi : i < n) (hn : n < 2147483648) (hd : decode cc pc = .ok (.iastore, 1)) {ws2 : va_W} (hws : ws.set q0 (a, .inl (cy 0, n, .inl (upd f i (Int32.ofInt x)))) = ws2) (kk : xW p l e R s m args below meth c D A H0 nL cells slots Q ws2 (pc + 1) lv st) : xW p l e R s m args below meth c D A H0 nL cells slots Q ws pc lv (vI x :: vI (i : Int) :: .ref a :: st) := by
  intro H locs la hP hD hS hl
  refine va_iast C.1.1 C.1.2.1 C.1.2.2.2.2.2.1 hP hD hS q0 0 ha rfl (xi_in (a := (i : Int)) (by omega) hn) hd (fun H1 locs1 hP1 hD1 hS1 => ?_)
  rw [xi_nat ⟨by omega, by omega⟩, Int.toNat_natCast, hws] at hP1 hD1
  exact kk H1 locs1 la hP1 hD1 hS1 hl
end XG
