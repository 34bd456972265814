section
abbrev vI (a : Int) : Value := .int (Int32.ofInt a)
abbrev vJ (a : Int) : Value := .long (Int64.ofInt a)
abbrev R32 (a : Int) : Prop := -2147483648 ≤ a ∧ a ≤ 2147483647
abbrev R64 (a : Int) : Prop := -9223372036854775808 ≤ a ∧ a ≤ 9223372036854775807
theorem xi_toInt {a : Int} (h : R32 a) : (Int32.ofInt a).toInt = a := Int32.toInt_ofInt_of_le (by omega) (by omega)
theorem xj_toInt {a : Int} (h : R64 a) : (Int64.ofInt a).toInt = a := Int64.toInt_ofInt_of_le (by omega) (by omega)
theorem xi_lt {a b : Int} (ha : R32 a) (hb : R32 b) : (Int32.ofInt a < Int32.ofInt b) ↔ a < b := by rw [Int32.lt_iff_toInt_lt, xi_toInt ha, xi_toInt hb]
theorem xi_le {a b : Int} (ha : R32 a) (hb : R32 b) : (Int32.ofInt a ≤ Int32.ofInt b) ↔ a ≤ b := by rw [Int32.le_iff_toInt_le, xi_toInt ha, xi_toInt hb]
theorem xi_eq {a b : Int} (ha : R32 a) (hb : R32 b) : (Int32.ofInt a = Int32.ofInt b) ↔ a = b := by rw [← Int32.toInt_inj, xi_toInt ha, xi_toInt hb]
theorem xj_lt {a b : Int} (ha : R64 a) (hb : R64 b) : (Int64.ofInt a < Int64.ofInt b) ↔ a < b := by rw [Int64.lt_iff_toInt_lt, xj_toInt ha, xj_toInt hb]
theorem xj_eq {a b : Int} (ha : R64 a) (hb : R64 b) : (Int64.ofInt a = Int64.ofInt b) ↔ a = b := by rw [← Int64.toInt_inj, xj_toInt ha, xj_toInt hb]
theorem xi_r (x : Int32) : R32 x.toInt := ⟨by have := x.le_toInt; omega, by have := x.toInt_lt; omega⟩
theorem xj_r (x : Int64) : R64 x.toInt := ⟨by have := x.le_toInt; omega, by have := x.toInt_lt; omega⟩
theorem xi_nat {a : Int} (h : R32 a) : (Int32.ofInt a).toNatClampNeg = a.toNat := Int32.toNatClampNeg_ofInt_of_le (by omega) (by omega)
theorem xi_of (x : Int32) : Int32.ofInt x.toInt = x := Int32.ofInt_toInt x
theorem xj_of (x : Int64) : Int64.ofInt x.toInt = x := Int64.ofInt_toInt x
theorem xi_in {a : Int} {n : Nat} (h : 0 ≤ a ∧ a < n) (hn : n < 2147483648) : vp_in (Int32.ofInt a) n := by
  have r : R32 a := ⟨by omega, by omega⟩
  exact vp_in_iff.mpr (by rw [xi_toInt r]; exact h)
def iAnd (a b : Int) : Int := (Int32.ofInt a &&& Int32.ofInt b).toInt
def iOr (a b : Int) : Int := (Int32.ofInt a ||| Int32.ofInt b).toInt
def iXor (a b : Int) : Int := (Int32.ofInt a ^^^ Int32.ofInt b).toInt
def iShl (a b : Int) : Int := (Int32.ofInt a <<< (Int32.ofInt b &&& 31)).toInt
def iShr (a b : Int) : Int := (Int32.ofInt a >>> (Int32.ofInt b &&& 31)).toInt
def iDiv (a b : Int) : Int := (Int32.ofInt a / Int32.ofInt b).toInt
def iRem (a b : Int) : Int := (Int32.ofInt a - Int32.ofInt a / Int32.ofInt b * Int32.ofInt b).toInt
section XL
variable {p : Program} {l : Launch} {e : Env} {R : Room} {s : State} {m : MethodId} {args : Array Value} {below : List Frame} {meth : Method} {c : Code} {cells slots : Nat} {Q : State → Prop}
variable {D : va_G} {A : Nat → Prop} {H0 : Heap} {nL : Nat} {ws : va_W} {pc : Nat} {lv : List (Nat × Value)} {st : List Value} {cc : ByteArray} {Ts : List Cond} {own : String} {TY : List (ClassId × FieldType)}
def xW (p : Program) (l : Launch) (e : Env) (R : Room) (s : State) (m : MethodId) (args : Array Value) (below : List Frame) (meth : Method) (c : Code) (D : va_G) (A : Nat → Prop) (H0 : Heap) (nL : Nat) (cells slots : Nat) (Q : State → Prop) (ws : va_W) (pc : Nat) (lv : List (Nat × Value)) (st : List Value) : Prop :=
  ∀ (H : Heap) (locs : List Loc) (la : Array Slot), va_P D vwCl ws H → va_D A ws → va_S A H0 H locs → lv_has la nL lv → W p l e R s m args below meth c H locs cells slots Q (F0 m pc la st)
abbrev xC (p : Program) (s : State) (m : MethodId) (args : Array Value) (meth : Method) (c : Code) (D : va_G) (A : Nat → Prop) (H0 : Heap) (nL : Nat) (cc : ByteArray) (Ts : List Cond) (own : String) (TY : List (ClassId × FieldType)) : Prop :=
  p.tables.exec = Jvm.exec ∧ c.code = cc ∧ c.maxLocals = nL ∧ s.vm.findClass own = some m.cls ∧ (∀ w ∈ Ts, w.before args s = true) ∧ va_K D vwCl TY s ∧ (∀ q : Nat, H0.size ≤ q → A q) ∧ meth.locks = false
theorem x_iconst (C : xC p s m args meth c D A H0 nL cc Ts own TY) {n : Int} (hd : decode cc pc = .ok (.iconst n, 1)) (k : xW p l e R s m args below meth c D A H0 nL cells slots Q ws (pc + 1) lv (vI n :: st)) : xW p l e R s m args below meth c D A H0 nL cells slots Q ws pc lv st :=
  fun H locs la hP hD hS hl => lv_iconst C.1 C.2.1 hd rfl (k H locs la hP hD hS hl)
theorem x_bipush (C : xC p s m args meth c D A H0 nL cc Ts own TY) {n : Int} (hd : decode cc pc = .ok (.bipush n, 2)) (k : xW p l e R s m args below meth c D A H0 nL cells slots Q ws (pc + 2) lv (vI n :: st)) (hv : (Int8.ofInt n).toInt32 = Int32.ofInt n := by decide) : xW p l e R s m args below meth c D A H0 nL cells slots Q ws pc lv st :=
  fun H locs la hP hD hS hl => lv_bipush C.1 C.2.1 hd hv (k H locs la hP hD hS hl)
theorem x_sipush (C : xC p s m args meth c D A H0 nL cc Ts own TY) {n : Int} (hd : decode cc pc = .ok (.sipush n, 3)) (k : xW p l e R s m args below meth c D A H0 nL cells slots Q ws (pc + 3) lv (vI n :: st)) (hv : (Int16.ofInt n).toInt32 = Int32.ofInt n := by decide) : xW p l e R s m args below meth c D A H0 nL cells slots Q ws pc lv st :=
  fun H locs la hP hD hS hl => lv_sipush C.1 C.2.1 hd hv (k H locs la hP hD hS hl)
theorem x_ldc (C : xC p s m args meth c D A H0 nL cc Ts own TY) {index : Nat} {n : Int} (hw : (Jvm.Cond.constant own index (Int32.ofInt n)) ∈ Ts) (hd : decode cc pc = .ok (.ldc index, 2)) (k : xW p l e R s m args below meth c D A H0 nL cells slots Q ws (pc + 2) lv (vI n :: st)) : xW p l e R s m args below meth c D A H0 nL cells slots Q ws pc lv st :=
  fun H locs la hP hD hS hl => lv_ldc C.1 C.2.1 C.2.2.2.1 (C.2.2.2.2.1 _ hw) hd (k H locs la hP hD hS hl)
theorem x_ldc2 (C : xC p s m args meth c D A H0 nL cc Ts own TY) {index : Nat} {n : Int} (hw : (Jvm.Cond.constantLong own index (Int64.ofInt n)) ∈ Ts) (hd : decode cc pc = .ok (.ldc2_w index, 3)) (k : xW p l e R s m args below meth c D A H0 nL cells slots Q ws (pc + 3) lv (vJ n :: st)) : xW p l e R s m args below meth c D A H0 nL cells slots Q ws pc lv st :=
  fun H locs la hP hD hS hl => lv_ldc2 C.1 C.2.1 C.2.2.2.1 (C.2.2.2.2.1 _ hw) hd (k H locs la hP hD hS hl)
theorem x_lconst0 (C : xC p s m args meth c D A H0 nL cc Ts own TY) (hd : decode cc pc = .ok (.lconst 0, 1)) (k : xW p l e R s m args below meth c D A H0 nL cells slots Q ws (pc + 1) lv (vJ 0 :: st)) : xW p l e R s m args below meth c D A H0 nL cells slots Q ws pc lv st :=
  fun H locs la hP hD hS hl => lv_lconst C.1 C.2.1 hd (v := Int64.ofInt 0) (by decide) (k H locs la hP hD hS hl)
theorem x_lconst1 (C : xC p s m args meth c D A H0 nL cc Ts own TY) (hd : decode cc pc = .ok (.lconst 1, 1)) (k : xW p l e R s m args below meth c D A H0 nL cells slots Q ws (pc + 1) lv (vJ 1 :: st)) : xW p l e R s m args below meth c D A H0 nL cells slots Q ws pc lv st :=
  fun H locs la hP hD hS hl => lv_lconst C.1 C.2.1 hd (v := Int64.ofInt 1) (by decide) (k H locs la hP hD hS hl)
theorem x_iload (C : xC p s m args meth c D A H0 nL cc Ts own TY) {i : Nat} {a : Int} (hd : decode cc pc = .ok (.iload i, 2)) (q : Nat) (hq : lv[q]? = some (i, vI a)) (k : xW p l e R s m args below meth c D A H0 nL cells slots Q ws (pc + 2) lv (vI a :: st)) : xW p l e R s m args below meth c D A H0 nL cells slots Q ws pc lv st :=
  fun H locs la hP hD hS hl => lv_iload C.1 C.2.1 hd (lv_at hl q hq) (k H locs la hP hD hS hl)
theorem x_iload_n (C : xC p s m args meth c D A H0 nL cc Ts own TY) {i : Fin 4} {a : Int} (hd : decode cc pc = .ok (.iload_n i, 1)) (q : Nat) (hq : lv[q]? = some ((i : Nat), vI a)) (k : xW p l e R s m args below meth c D A H0 nL cells slots Q ws (pc + 1) lv (vI a :: st)) : xW p l e R s m args below meth c D A H0 nL cells slots Q ws pc lv st :=
  fun H locs la hP hD hS hl => lv_iload_n C.1 C.2.1 hd rfl (lv_at hl q hq) (k H locs la hP hD hS hl)
theorem x_lload (C : xC p s m args meth c D A H0 nL cc Ts own TY) {i : Nat} {a : Int} (hd : decode cc pc = .ok (.lload i, 2)) (q : Nat) (hq : lv[q]? = some (i, vJ a)) (k : xW p l e R s m args below meth c D A H0 nL cells slots Q ws (pc + 2) lv (vJ a :: st)) : xW p l e R s m args below meth c D A H0 nL cells slots Q ws pc lv st :=
  fun H locs la hP hD hS hl => lv_lload C.1 C.2.1 hd (lv_at hl q hq) (k H locs la hP hD hS hl)
theorem x_lload_n (C : xC p s m args meth c D A H0 nL cc Ts own TY) {i : Fin 4} {a : Int} (hd : decode cc pc = .ok (.lload_n i, 1)) (q : Nat) (hq : lv[q]? = some ((i : Nat), vJ a)) (k : xW p l e R s m args below meth c D A H0 nL cells slots Q ws (pc + 1) lv (vJ a :: st)) : xW p l e R s m args below meth c D A H0 nL cells slots Q ws pc lv st :=
  fun H locs la hP hD hS hl => lv_lload_n C.1 C.2.1 hd rfl (lv_at hl q hq) (k H locs la hP hD hS hl)
theorem x_aload (C : xC p s m args meth c D A H0 nL cc Ts own TY) {i : Nat} {a : Nat} (hd : decode cc pc = .ok (.aload i, 2)) (q : Nat) (hq : lv[q]? = some (i, .ref a)) (k : xW p l e R s m args below meth c D A H0 nL cells slots Q ws (pc + 2) lv (.ref a :: st)) : xW p l e R s m args below meth c D A H0 nL cells slots Q ws pc lv st :=
  fun H locs la hP hD hS hl => lv_aload C.1 C.2.1 hd (lv_at hl q hq) (k H locs la hP hD hS hl)
theorem x_aload_n (C : xC p s m args meth c D A H0 nL cc Ts own TY) {i : Fin 4} {a : Nat} (hd : decode cc pc = .ok (.aload_n i, 1)) (q : Nat) (hq : lv[q]? = some ((i : Nat), .ref a)) (k : xW p l e R s m args below meth c D A H0 nL cells slots Q ws (pc + 1) lv (.ref a :: st)) : xW p l e R s m args below meth c D A H0 nL cells slots Q ws pc lv st :=
  fun H locs la hP hD hS hl => lv_aload_n C.1 C.2.1 hd rfl (lv_at hl q hq) (k H locs la hP hD hS hl)
theorem x_istore (C : xC p s m args meth c D A H0 nL cc Ts own TY) {i : Nat} {a : Int} (lv' : List (Nat × Value)) (hd : decode cc pc = .ok (.istore i, 2)) (hn : i < nL) (hq : (i, vI a) :: lv.filter (fun q => !(q.1 == i) && !(q.1 + 1 == i && q.2.category == 2)) = lv') (k : xW p l e R s m args below meth c D A H0 nL cells slots Q ws (pc + 2) lv' st) : xW p l e R s m args below meth c D A H0 nL cells slots Q ws pc lv (vI a :: st) :=
  fun H locs la hP hD hS hl => lv_istore C.1 C.2.1 hd hl hn hq (fun ls hl => k H locs ls hP hD hS hl)
theorem x_istore_n (C : xC p s m args meth c D A H0 nL cc Ts own TY) {i : Fin 4} {a : Int} (lv' : List (Nat × Value)) (hd : decode cc pc = .ok (.istore_n i, 1)) (hn : (i : Nat) < nL) (hq : ((i : Nat), vI a) :: lv.filter (fun q => !(q.1 == (i : Nat)) && !(q.1 + 1 == (i : Nat) && q.2.category == 2)) = lv') (k : xW p l e R s m args below meth c D A H0 nL cells slots Q ws (pc + 1) lv' st) : xW p l e R s m args below meth c D A H0 nL cells slots Q ws pc lv (vI a :: st) :=
  fun H locs la hP hD hS hl => lv_istore_n C.1 C.2.1 hd rfl hl hn hq (fun ls hl => k H locs ls hP hD hS hl)
theorem x_astore (C : xC p s m args meth c D A H0 nL cc Ts own TY) {i : Nat} {a : Nat} (lv' : List (Nat × Value)) (hd : decode cc pc = .ok (.astore i, 2)) (hn : i < nL) (hq : (i, Value.ref a) :: lv.filter (fun q => !(q.1 == i) && !(q.1 + 1 == i && q.2.category == 2)) = lv') (k : xW p l e R s m args below meth c D A H0 nL cells slots Q ws (pc + 2) lv' st) : xW p l e R s m args below meth c D A H0 nL cells slots Q ws pc lv (.ref a :: st) :=
  fun H locs la hP hD hS hl => lv_astore C.1 C.2.1 hd hl hn hq (fun ls hl => k H locs ls hP hD hS hl)
theorem x_astore_n (C : xC p s m args meth c D A H0 nL cc Ts own TY) {i : Fin 4} {a : Nat} (lv' : List (Nat × Value)) (hd : decode cc pc = .ok (.astore_n i, 1)) (hn : (i : Nat) < nL) (hq : ((i : Nat), Value.ref a) :: lv.filter (fun q => !(q.1 == (i : Nat)) && !(q.1 + 1 == (i : Nat) && q.2.category == 2)) = lv') (k : xW p l e R s m args below meth c D A H0 nL cells slots Q ws (pc + 1) lv' st) : xW p l e R s m args below meth c D A H0 nL cells slots Q ws pc lv (.ref a :: st) :=
  fun H locs la hP hD hS hl => lv_astore_n C.1 C.2.1 hd rfl hl hn hq (fun ls hl => k H locs ls hP hD hS hl)
theorem x_lstore (C : xC p s m args meth c D A H0 nL cc Ts own TY) {i : Nat} {a : Int} (lv' : List (Nat × Value)) (hd : decode cc pc = .ok (.lstore i, 2)) (hn : i + 1 < nL) (hq : (i, vJ a) :: lv.filter (fun q => !(q.1 == i) && (!(q.1 == i + 1) && !(q.1 + 1 == i && q.2.category == 2))) = lv') (k : xW p l e R s m args below meth c D A H0 nL cells slots Q ws (pc + 2) lv' st) : xW p l e R s m args below meth c D A H0 nL cells slots Q ws pc lv (vJ a :: st) :=
  fun H locs la hP hD hS hl => lv_lstore C.1 C.2.1 hd hl hn hq (fun ls hl => k H locs ls hP hD hS hl)
theorem x_lstore_n (C : xC p s m args meth c D A H0 nL cc Ts own TY) {i : Fin 4} {a : Int} (lv' : List (Nat × Value)) (hd : decode cc pc = .ok (.lstore_n i, 1)) (hn : (i : Nat) + 1 < nL) (hq : ((i : Nat), vJ a) :: lv.filter (fun q => !(q.1 == (i : Nat)) && (!(q.1 == (i : Nat) + 1) && !(q.1 + 1 == (i : Nat) && q.2.category == 2))) = lv') (k : xW p l e R s m args below meth c D A H0 nL cells slots Q ws (pc + 1) lv' st) : xW p l e R s m args below meth c D A H0 nL cells slots Q ws pc lv (vJ a :: st) :=
  fun H locs la hP hD hS hl => lv_lstore_n C.1 C.2.1 hd rfl hl hn hq (fun ls hl => k H locs ls hP hD hS hl)
theorem x_iinc (C : xC p s m args meth c D A H0 nL cc Ts own TY) {i : Nat} {n a v : Int} (lv' : List (Nat × Value)) (hv : a + n = v) (hd : decode cc pc = .ok (.iinc i n, 3)) (q : Nat) (hk : lv[q]? = some (i, vI a)) (hn : i < nL) (hq : (i, vI v) :: lv.filter (fun q => !(q.1 == i) && !(q.1 + 1 == i && q.2.category == 2)) = lv') (k : xW p l e R s m args below meth c D A H0 nL cells slots Q ws (pc + 3) lv' st) : xW p l e R s m args below meth c D A H0 nL cells slots Q ws pc lv st :=
  fun H locs la hP hD hS hl => lv_iinc C.1 C.2.1 hd hl hk (by rw [← hv]; exact (Int32.ofInt_add a n).symm) hn hq (fun ls hl => k H locs ls hP hD hS hl)
theorem x_iadd (C : xC p s m args meth c D A H0 nL cc Ts own TY) {a b v : Int} (hv : a + b = v) (hd : decode cc pc = .ok (.iadd, 1)) (k : xW p l e R s m args below meth c D A H0 nL cells slots Q ws (pc + 1) lv (vI v :: st)) : xW p l e R s m args below meth c D A H0 nL cells slots Q ws pc lv (vI b :: vI a :: st) :=
  fun H locs la hP hD hS hl => lv_iadd C.1 C.2.1 hd (by rw [← Int32.ofInt_add, hv]; exact k H locs la hP hD hS hl)
theorem x_isub (C : xC p s m args meth c D A H0 nL cc Ts own TY) {a b v : Int} (hv : a - b = v) (hd : decode cc pc = .ok (.isub, 1)) (k : xW p l e R s m args below meth c D A H0 nL cells slots Q ws (pc + 1) lv (vI v :: st)) : xW p l e R s m args below meth c D A H0 nL cells slots Q ws pc lv (vI b :: vI a :: st) :=
  fun H locs la hP hD hS hl => lv_isub C.1 C.2.1 hd (by rw [← Int32.ofInt_sub, hv]; exact k H locs la hP hD hS hl)
theorem x_imul (C : xC p s m args meth c D A H0 nL cc Ts own TY) {a b v : Int} (hv : a * b = v) (hd : decode cc pc = .ok (.imul, 1)) (k : xW p l e R s m args below meth c D A H0 nL cells slots Q ws (pc + 1) lv (vI v :: st)) : xW p l e R s m args below meth c D A H0 nL cells slots Q ws pc lv (vI b :: vI a :: st) :=
  fun H locs la hP hD hS hl => lv_imul C.1 C.2.1 hd (by rw [← Int32.ofInt_mul, hv]; exact k H locs la hP hD hS hl)
theorem x_iand (C : xC p s m args meth c D A H0 nL cc Ts own TY) {a b v : Int} (hv : iAnd a b = v) (hd : decode cc pc = .ok (.iand, 1)) (k : xW p l e R s m args below meth c D A H0 nL cells slots Q ws (pc + 1) lv (vI v :: st)) : xW p l e R s m args below meth c D A H0 nL cells slots Q ws pc lv (vI b :: vI a :: st) :=
  fun H locs la hP hD hS hl => lv_iand C.1 C.2.1 hd (by have k := k H locs la hP hD hS hl; simp only [vI, ← hv, iAnd, xi_of] at k; exact k)
theorem x_ior (C : xC p s m args meth c D A H0 nL cc Ts own TY) {a b v : Int} (hv : iOr a b = v) (hd : decode cc pc = .ok (.ior, 1)) (k : xW p l e R s m args below meth c D A H0 nL cells slots Q ws (pc + 1) lv (vI v :: st)) : xW p l e R s m args below meth c D A H0 nL cells slots Q ws pc lv (vI b :: vI a :: st) :=
  fun H locs la hP hD hS hl => lv_ior C.1 C.2.1 hd (by have k := k H locs la hP hD hS hl; simp only [vI, ← hv, iOr, xi_of] at k; exact k)
theorem x_ixor (C : xC p s m args meth c D A H0 nL cc Ts own TY) {a b v : Int} (hv : iXor a b = v) (hd : decode cc pc = .ok (.ixor, 1)) (k : xW p l e R s m args below meth c D A H0 nL cells slots Q ws (pc + 1) lv (vI v :: st)) : xW p l e R s m args below meth c D A H0 nL cells slots Q ws pc lv (vI b :: vI a :: st) :=
  fun H locs la hP hD hS hl => lv_ixor C.1 C.2.1 hd (by have k := k H locs la hP hD hS hl; simp only [vI, ← hv, iXor, xi_of] at k; exact k)
theorem x_ishl (C : xC p s m args meth c D A H0 nL cc Ts own TY) {a b v : Int} (hv : iShl a b = v) (hd : decode cc pc = .ok (.ishl, 1)) (k : xW p l e R s m args below meth c D A H0 nL cells slots Q ws (pc + 1) lv (vI v :: st)) : xW p l e R s m args below meth c D A H0 nL cells slots Q ws pc lv (vI b :: vI a :: st) :=
  fun H locs la hP hD hS hl => lv_ishl C.1 C.2.1 hd (by have k := k H locs la hP hD hS hl; simp only [vI, ← hv, iShl, xi_of] at k; exact k)
theorem x_ishr (C : xC p s m args meth c D A H0 nL cc Ts own TY) {a b v : Int} (hv : iShr a b = v) (hd : decode cc pc = .ok (.ishr, 1)) (k : xW p l e R s m args below meth c D A H0 nL cells slots Q ws (pc + 1) lv (vI v :: st)) : xW p l e R s m args below meth c D A H0 nL cells slots Q ws pc lv (vI b :: vI a :: st) :=
  fun H locs la hP hD hS hl => lv_ishr C.1 C.2.1 hd (by have k := k H locs la hP hD hS hl; simp only [vI, ← hv, iShr, xi_of] at k; exact k)
theorem x_idiv (C : xC p s m args meth c D A H0 nL cc Ts own TY) {a b v : Int} (hv : iDiv a b = v) (hd : decode cc pc = .ok (.idiv, 1)) (hb : R32 b) (hne : b ≠ 0) (k : xW p l e R s m args below meth c D A H0 nL cells slots Q ws (pc + 1) lv (vI v :: st)) : xW p l e R s m args below meth c D A H0 nL cells slots Q ws pc lv (vI b :: vI a :: st) :=
  fun H locs la hP hD hS hl => lv_idiv C.1 C.2.1 hd (fun h => hne ((xi_eq hb (by decide)).mp h)) (by have k := k H locs la hP hD hS hl; simp only [vI, ← hv, iDiv, xi_of] at k; exact k)
theorem x_irem (C : xC p s m args meth c D A H0 nL cc Ts own TY) {a b v : Int} (hv : iRem a b = v) (hd : decode cc pc = .ok (.irem, 1)) (hb : R32 b) (hne : b ≠ 0) (k : xW p l e R s m args below meth c D A H0 nL cells slots Q ws (pc + 1) lv (vI v :: st)) : xW p l e R s m args below meth c D A H0 nL cells slots Q ws pc lv (vI b :: vI a :: st) :=
  fun H locs la hP hD hS hl => lv_irem C.1 C.2.1 hd (fun h => hne ((xi_eq hb (by decide)).mp h)) (by have k := k H locs la hP hD hS hl; simp only [vI, ← hv, iRem, xi_of] at k; exact k)
theorem x_i2l (C : xC p s m args meth c D A H0 nL cc Ts own TY) {a : Int} (hd : decode cc pc = .ok (.i2l, 1)) (ha : R32 a) (k : xW p l e R s m args below meth c D A H0 nL cells slots Q ws (pc + 1) lv (vJ a :: st)) : xW p l e R s m args below meth c D A H0 nL cells slots Q ws pc lv (vI a :: st) :=
  fun H locs la hP hD hS hl => lv_i2l C.1 C.2.1 hd (v := Int64.ofInt a) (by rw [← Int64.toInt_inj, Int32.toInt_toInt64, xi_toInt ha, xj_toInt ⟨by omega, by omega⟩]) (k H locs la hP hD hS hl)
theorem x_ladd (C : xC p s m args meth c D A H0 nL cc Ts own TY) {a b v : Int} (hv : a + b = v) (hd : decode cc pc = .ok (.ladd, 1)) (k : xW p l e R s m args below meth c D A H0 nL cells slots Q ws (pc + 1) lv (vJ v :: st)) : xW p l e R s m args below meth c D A H0 nL cells slots Q ws pc lv (vJ b :: vJ a :: st) :=
  fun H locs la hP hD hS hl => lv_ladd C.1 C.2.1 hd (by rw [← Int64.ofInt_add, hv]; exact k H locs la hP hD hS hl)
theorem x_lsub (C : xC p s m args meth c D A H0 nL cc Ts own TY) {a b v : Int} (hv : a - b = v) (hd : decode cc pc = .ok (.lsub, 1)) (k : xW p l e R s m args below meth c D A H0 nL cells slots Q ws (pc + 1) lv (vJ v :: st)) : xW p l e R s m args below meth c D A H0 nL cells slots Q ws pc lv (vJ b :: vJ a :: st) :=
  fun H locs la hP hD hS hl => lv_lsub C.1 C.2.1 hd (by rw [← Int64.ofInt_sub, hv]; exact k H locs la hP hD hS hl)
theorem x_lmul (C : xC p s m args meth c D A H0 nL cc Ts own TY) {a b v : Int} (hv : a * b = v) (hd : decode cc pc = .ok (.lmul, 1)) (k : xW p l e R s m args below meth c D A H0 nL cells slots Q ws (pc + 1) lv (vJ v :: st)) : xW p l e R s m args below meth c D A H0 nL cells slots Q ws pc lv (vJ b :: vJ a :: st) :=
  fun H locs la hP hD hS hl => lv_lmul C.1 C.2.1 hd (by rw [← Int64.ofInt_mul, hv]; exact k H locs la hP hD hS hl)
theorem x_dup (C : xC p s m args meth c D A H0 nL cc Ts own TY) {v : Value} (hd : decode cc pc = .ok (.dup, 1)) (hv : v.category = 1) (k : xW p l e R s m args below meth c D A H0 nL cells slots Q ws (pc + 1) lv (v :: v :: st)) : xW p l e R s m args below meth c D A H0 nL cells slots Q ws pc lv (v :: st) :=
  fun H locs la hP hD hS hl => lv_dup C.1 C.2.1 hd hv (k H locs la hP hD hS hl)
theorem x_pop (C : xC p s m args meth c D A H0 nL cc Ts own TY) {v : Value} (hd : decode cc pc = .ok (.pop, 1)) (hv : v.category = 1) (k : xW p l e R s m args below meth c D A H0 nL cells slots Q ws (pc + 1) lv (st)) : xW p l e R s m args below meth c D A H0 nL cells slots Q ws pc lv (v :: st) :=
  fun H locs la hP hD hS hl => lv_pop C.1 C.2.1 hd hv (k H locs la hP hD hS hl)
theorem x_goto (C : xC p s m args meth c D A H0 nL cc Ts own TY) {off : Int} {tgt : Nat} (hd : decode cc pc = .ok (.goto off, 3)) (ht : (pc : Int) + off = (tgt : Int)) (k : xW p l e R s m args below meth c D A H0 nL cells slots Q ws tgt lv st) : xW p l e R s m args below meth c D A H0 nL cells slots Q ws pc lv st :=
  fun H locs la hP hD hS hl => lv_goto C.1 C.2.1 hd ht (k H locs la hP hD hS hl)
theorem x_icmp_eq (C : xC p s m args meth c D A H0 nL cc Ts own TY) {a b : Int} {off : Int} {tgt : Nat} (hd : decode cc pc = .ok (.if_icmp .eq off, 3)) (ht : (pc : Int) + off = (tgt : Int)) (ha : R32 a) (hb : R32 b) (kt : a = b → xW p l e R s m args below meth c D A H0 nL cells slots Q ws tgt lv st) (kf : ¬ (a = b) → xW p l e R s m args below meth c D A H0 nL cells slots Q ws (pc + 3) lv st) : xW p l e R s m args below meth c D A H0 nL cells slots Q ws pc lv (vI b :: vI a :: st) :=
  fun H locs la hP hD hS hl => lv_icmp_eq C.1 C.2.1 hd ht (fun h => kt ((xi_eq ha hb).mp h) H locs la hP hD hS hl) (fun h => kf (fun h2 => h ((xi_eq ha hb).mpr h2)) H locs la hP hD hS hl)
theorem x_icmp_eq_t (C : xC p s m args meth c D A H0 nL cc Ts own TY) {a b : Int} {off : Int} {tgt : Nat} (hd : decode cc pc = .ok (.if_icmp .eq off, 3)) (ht : (pc : Int) + off = (tgt : Int)) (ha : R32 a) (hb : R32 b) (h : a = b) (k : xW p l e R s m args below meth c D A H0 nL cells slots Q ws tgt lv st) : xW p l e R s m args below meth c D A H0 nL cells slots Q ws pc lv (vI b :: vI a :: st) :=
  x_icmp_eq C hd ht ha hb (fun _ => k) (fun h2 => absurd h h2)
theorem x_icmp_eq_f (C : xC p s m args meth c D A H0 nL cc Ts own TY) {a b : Int} {off : Int} {tgt : Nat} (hd : decode cc pc = .ok (.if_icmp .eq off, 3)) (ht : (pc : Int) + off = (tgt : Int)) (ha : R32 a) (hb : R32 b) (h : ¬ (a = b)) (k : xW p l e R s m args below meth c D A H0 nL cells slots Q ws (pc + 3) lv st) : xW p l e R s m args below meth c D A H0 nL cells slots Q ws pc lv (vI b :: vI a :: st) :=
  x_icmp_eq C hd ht ha hb (fun h2 => absurd h2 h) (fun _ => k)
theorem x_if_eq (C : xC p s m args meth c D A H0 nL cc Ts own TY) {a : Int} {off : Int} {tgt : Nat} (hd : decode cc pc = .ok (.ifCond .eq off, 3)) (ht : (pc : Int) + off = (tgt : Int)) (ha : R32 a) (kt : a = 0 → xW p l e R s m args below meth c D A H0 nL cells slots Q ws tgt lv st) (kf : ¬ (a = 0) → xW p l e R s m args below meth c D A H0 nL cells slots Q ws (pc + 3) lv st) : xW p l e R s m args below meth c D A H0 nL cells slots Q ws pc lv (vI a :: st) :=
  fun H locs la hP hD hS hl => lv_if_eq C.1 C.2.1 hd ht (fun h => kt ((xi_eq ha (by decide)).mp h) H locs la hP hD hS hl) (fun h => kf (fun h2 => h ((xi_eq ha (by decide)).mpr h2)) H locs la hP hD hS hl)
theorem x_if_eq_t (C : xC p s m args meth c D A H0 nL cc Ts own TY) {a : Int} {off : Int} {tgt : Nat} (hd : decode cc pc = .ok (.ifCond .eq off, 3)) (ht : (pc : Int) + off = (tgt : Int)) (ha : R32 a) (h : a = 0) (k : xW p l e R s m args below meth c D A H0 nL cells slots Q ws tgt lv st) : xW p l e R s m args below meth c D A H0 nL cells slots Q ws pc lv (vI a :: st) :=
  x_if_eq C hd ht ha (fun _ => k) (fun h2 => absurd h h2)
theorem x_if_eq_f (C : xC p s m args meth c D A H0 nL cc Ts own TY) {a : Int} {off : Int} {tgt : Nat} (hd : decode cc pc = .ok (.ifCond .eq off, 3)) (ht : (pc : Int) + off = (tgt : Int)) (ha : R32 a) (h : ¬ (a = 0)) (k : xW p l e R s m args below meth c D A H0 nL cells slots Q ws (pc + 3) lv st) : xW p l e R s m args below meth c D A H0 nL cells slots Q ws pc lv (vI a :: st) :=
  x_if_eq C hd ht ha (fun h2 => absurd h2 h) (fun _ => k)
theorem x_icmp_ne (C : xC p s m args meth c D A H0 nL cc Ts own TY) {a b : Int} {off : Int} {tgt : Nat} (hd : decode cc pc = .ok (.if_icmp .ne off, 3)) (ht : (pc : Int) + off = (tgt : Int)) (ha : R32 a) (hb : R32 b) (kt : ¬ a = b → xW p l e R s m args below meth c D A H0 nL cells slots Q ws tgt lv st) (kf : a = b → xW p l e R s m args below meth c D A H0 nL cells slots Q ws (pc + 3) lv st) : xW p l e R s m args below meth c D A H0 nL cells slots Q ws pc lv (vI b :: vI a :: st) :=
  fun H locs la hP hD hS hl => lv_icmp_ne C.1 C.2.1 hd ht (fun h => kt (fun h2 => h ((xi_eq ha hb).mpr h2)) H locs la hP hD hS hl) (fun h => kf ((xi_eq ha hb).mp h) H locs la hP hD hS hl)
theorem x_icmp_ne_t (C : xC p s m args meth c D A H0 nL cc Ts own TY) {a b : Int} {off : Int} {tgt : Nat} (hd : decode cc pc = .ok (.if_icmp .ne off, 3)) (ht : (pc : Int) + off = (tgt : Int)) (ha : R32 a) (hb : R32 b) (h : ¬ a = b) (k : xW p l e R s m args below meth c D A H0 nL cells slots Q ws tgt lv st) : xW p l e R s m args below meth c D A H0 nL cells slots Q ws pc lv (vI b :: vI a :: st) :=
  x_icmp_ne C hd ht ha hb (fun _ => k) (fun h2 => absurd h2 h)
theorem x_icmp_ne_f (C : xC p s m args meth c D A H0 nL cc Ts own TY) {a b : Int} {off : Int} {tgt : Nat} (hd : decode cc pc = .ok (.if_icmp .ne off, 3)) (ht : (pc : Int) + off = (tgt : Int)) (ha : R32 a) (hb : R32 b) (h : a = b) (k : xW p l e R s m args below meth c D A H0 nL cells slots Q ws (pc + 3) lv st) : xW p l e R s m args below meth c D A H0 nL cells slots Q ws pc lv (vI b :: vI a :: st) :=
  x_icmp_ne C hd ht ha hb (fun h2 => absurd h h2) (fun _ => k)
theorem x_if_ne (C : xC p s m args meth c D A H0 nL cc Ts own TY) {a : Int} {off : Int} {tgt : Nat} (hd : decode cc pc = .ok (.ifCond .ne off, 3)) (ht : (pc : Int) + off = (tgt : Int)) (ha : R32 a) (kt : ¬ a = 0 → xW p l e R s m args below meth c D A H0 nL cells slots Q ws tgt lv st) (kf : a = 0 → xW p l e R s m args below meth c D A H0 nL cells slots Q ws (pc + 3) lv st) : xW p l e R s m args below meth c D A H0 nL cells slots Q ws pc lv (vI a :: st) :=
  fun H locs la hP hD hS hl => lv_if_ne C.1 C.2.1 hd ht (fun h => kt (fun h2 => h ((xi_eq ha (by decide)).mpr h2)) H locs la hP hD hS hl) (fun h => kf ((xi_eq ha (by decide)).mp h) H locs la hP hD hS hl)
theorem x_if_ne_t (C : xC p s m args meth c D A H0 nL cc Ts own TY) {a : Int} {off : Int} {tgt : Nat} (hd : decode cc pc = .ok (.ifCond .ne off, 3)) (ht : (pc : Int) + off = (tgt : Int)) (ha : R32 a) (h : ¬ a = 0) (k : xW p l e R s m args below meth c D A H0 nL cells slots Q ws tgt lv st) : xW p l e R s m args below meth c D A H0 nL cells slots Q ws pc lv (vI a :: st) :=
  x_if_ne C hd ht ha (fun _ => k) (fun h2 => absurd h2 h)
theorem x_if_ne_f (C : xC p s m args meth c D A H0 nL cc Ts own TY) {a : Int} {off : Int} {tgt : Nat} (hd : decode cc pc = .ok (.ifCond .ne off, 3)) (ht : (pc : Int) + off = (tgt : Int)) (ha : R32 a) (h : a = 0) (k : xW p l e R s m args below meth c D A H0 nL cells slots Q ws (pc + 3) lv st) : xW p l e R s m args below meth c D A H0 nL cells slots Q ws pc lv (vI a :: st) :=
  x_if_ne C hd ht ha (fun h2 => absurd h h2) (fun _ => k)
theorem x_icmp_lt (C : xC p s m args meth c D A H0 nL cc Ts own TY) {a b : Int} {off : Int} {tgt : Nat} (hd : decode cc pc = .ok (.if_icmp .lt off, 3)) (ht : (pc : Int) + off = (tgt : Int)) (ha : R32 a) (hb : R32 b) (kt : a < b → xW p l e R s m args below meth c D A H0 nL cells slots Q ws tgt lv st) (kf : ¬ (a < b) → xW p l e R s m args below meth c D A H0 nL cells slots Q ws (pc + 3) lv st) : xW p l e R s m args below meth c D A H0 nL cells slots Q ws pc lv (vI b :: vI a :: st) :=
  fun H locs la hP hD hS hl => lv_icmp_lt C.1 C.2.1 hd ht (fun h => kt ((xi_lt ha hb).mp h) H locs la hP hD hS hl) (fun h => kf (fun h2 => h ((xi_lt ha hb).mpr h2)) H locs la hP hD hS hl)
theorem x_icmp_lt_t (C : xC p s m args meth c D A H0 nL cc Ts own TY) {a b : Int} {off : Int} {tgt : Nat} (hd : decode cc pc = .ok (.if_icmp .lt off, 3)) (ht : (pc : Int) + off = (tgt : Int)) (ha : R32 a) (hb : R32 b) (h : a < b) (k : xW p l e R s m args below meth c D A H0 nL cells slots Q ws tgt lv st) : xW p l e R s m args below meth c D A H0 nL cells slots Q ws pc lv (vI b :: vI a :: st) :=
  x_icmp_lt C hd ht ha hb (fun _ => k) (fun h2 => absurd h h2)
theorem x_icmp_lt_f (C : xC p s m args meth c D A H0 nL cc Ts own TY) {a b : Int} {off : Int} {tgt : Nat} (hd : decode cc pc = .ok (.if_icmp .lt off, 3)) (ht : (pc : Int) + off = (tgt : Int)) (ha : R32 a) (hb : R32 b) (h : ¬ (a < b)) (k : xW p l e R s m args below meth c D A H0 nL cells slots Q ws (pc + 3) lv st) : xW p l e R s m args below meth c D A H0 nL cells slots Q ws pc lv (vI b :: vI a :: st) :=
  x_icmp_lt C hd ht ha hb (fun h2 => absurd h2 h) (fun _ => k)
theorem x_if_lt (C : xC p s m args meth c D A H0 nL cc Ts own TY) {a : Int} {off : Int} {tgt : Nat} (hd : decode cc pc = .ok (.ifCond .lt off, 3)) (ht : (pc : Int) + off = (tgt : Int)) (ha : R32 a) (kt : a < 0 → xW p l e R s m args below meth c D A H0 nL cells slots Q ws tgt lv st) (kf : ¬ (a < 0) → xW p l e R s m args below meth c D A H0 nL cells slots Q ws (pc + 3) lv st) : xW p l e R s m args below meth c D A H0 nL cells slots Q ws pc lv (vI a :: st) :=
  fun H locs la hP hD hS hl => lv_if_lt C.1 C.2.1 hd ht (fun h => kt ((xi_lt ha (by decide)).mp h) H locs la hP hD hS hl) (fun h => kf (fun h2 => h ((xi_lt ha (by decide)).mpr h2)) H locs la hP hD hS hl)
theorem x_if_lt_t (C : xC p s m args meth c D A H0 nL cc Ts own TY) {a : Int} {off : Int} {tgt : Nat} (hd : decode cc pc = .ok (.ifCond .lt off, 3)) (ht : (pc : Int) + off = (tgt : Int)) (ha : R32 a) (h : a < 0) (k : xW p l e R s m args below meth c D A H0 nL cells slots Q ws tgt lv st) : xW p l e R s m args below meth c D A H0 nL cells slots Q ws pc lv (vI a :: st) :=
  x_if_lt C hd ht ha (fun _ => k) (fun h2 => absurd h h2)
theorem x_if_lt_f (C : xC p s m args meth c D A H0 nL cc Ts own TY) {a : Int} {off : Int} {tgt : Nat} (hd : decode cc pc = .ok (.ifCond .lt off, 3)) (ht : (pc : Int) + off = (tgt : Int)) (ha : R32 a) (h : ¬ (a < 0)) (k : xW p l e R s m args below meth c D A H0 nL cells slots Q ws (pc + 3) lv st) : xW p l e R s m args below meth c D A H0 nL cells slots Q ws pc lv (vI a :: st) :=
  x_if_lt C hd ht ha (fun h2 => absurd h2 h) (fun _ => k)
theorem x_icmp_ge (C : xC p s m args meth c D A H0 nL cc Ts own TY) {a b : Int} {off : Int} {tgt : Nat} (hd : decode cc pc = .ok (.if_icmp .ge off, 3)) (ht : (pc : Int) + off = (tgt : Int)) (ha : R32 a) (hb : R32 b) (kt : b ≤ a → xW p l e R s m args below meth c D A H0 nL cells slots Q ws tgt lv st) (kf : ¬ (b ≤ a) → xW p l e R s m args below meth c D A H0 nL cells slots Q ws (pc + 3) lv st) : xW p l e R s m args below meth c D A H0 nL cells slots Q ws pc lv (vI b :: vI a :: st) :=
  fun H locs la hP hD hS hl => lv_icmp_ge C.1 C.2.1 hd ht (fun h => kt ((xi_le hb ha).mp h) H locs la hP hD hS hl) (fun h => kf (fun h2 => h ((xi_le hb ha).mpr h2)) H locs la hP hD hS hl)
theorem x_icmp_ge_t (C : xC p s m args meth c D A H0 nL cc Ts own TY) {a b : Int} {off : Int} {tgt : Nat} (hd : decode cc pc = .ok (.if_icmp .ge off, 3)) (ht : (pc : Int) + off = (tgt : Int)) (ha : R32 a) (hb : R32 b) (h : b ≤ a) (k : xW p l e R s m args below meth c D A H0 nL cells slots Q ws tgt lv st) : xW p l e R s m args below meth c D A H0 nL cells slots Q ws pc lv (vI b :: vI a :: st) :=
  x_icmp_ge C hd ht ha hb (fun _ => k) (fun h2 => absurd h h2)
theorem x_icmp_ge_f (C : xC p s m args meth c D A H0 nL cc Ts own TY) {a b : Int} {off : Int} {tgt : Nat} (hd : decode cc pc = .ok (.if_icmp .ge off, 3)) (ht : (pc : Int) + off = (tgt : Int)) (ha : R32 a) (hb : R32 b) (h : ¬ (b ≤ a)) (k : xW p l e R s m args below meth c D A H0 nL cells slots Q ws (pc + 3) lv st) : xW p l e R s m args below meth c D A H0 nL cells slots Q ws pc lv (vI b :: vI a :: st) :=
  x_icmp_ge C hd ht ha hb (fun h2 => absurd h2 h) (fun _ => k)
theorem x_if_ge (C : xC p s m args meth c D A H0 nL cc Ts own TY) {a : Int} {off : Int} {tgt : Nat} (hd : decode cc pc = .ok (.ifCond .ge off, 3)) (ht : (pc : Int) + off = (tgt : Int)) (ha : R32 a) (kt : 0 ≤ a → xW p l e R s m args below meth c D A H0 nL cells slots Q ws tgt lv st) (kf : ¬ (0 ≤ a) → xW p l e R s m args below meth c D A H0 nL cells slots Q ws (pc + 3) lv st) : xW p l e R s m args below meth c D A H0 nL cells slots Q ws pc lv (vI a :: st) :=
  fun H locs la hP hD hS hl => lv_if_ge C.1 C.2.1 hd ht (fun h => kt ((xi_le (by decide) ha).mp h) H locs la hP hD hS hl) (fun h => kf (fun h2 => h ((xi_le (by decide) ha).mpr h2)) H locs la hP hD hS hl)
theorem x_if_ge_t (C : xC p s m args meth c D A H0 nL cc Ts own TY) {a : Int} {off : Int} {tgt : Nat} (hd : decode cc pc = .ok (.ifCond .ge off, 3)) (ht : (pc : Int) + off = (tgt : Int)) (ha : R32 a) (h : 0 ≤ a) (k : xW p l e R s m args below meth c D A H0 nL cells slots Q ws tgt lv st) : xW p l e R s m args below meth c D A H0 nL cells slots Q ws pc lv (vI a :: st) :=
  x_if_ge C hd ht ha (fun _ => k) (fun h2 => absurd h h2)
theorem x_if_ge_f (C : xC p s m args meth c D A H0 nL cc Ts own TY) {a : Int} {off : Int} {tgt : Nat} (hd : decode cc pc = .ok (.ifCond .ge off, 3)) (ht : (pc : Int) + off = (tgt : Int)) (ha : R32 a) (h : ¬ (0 ≤ a)) (k : xW p l e R s m args below meth c D A H0 nL cells slots Q ws (pc + 3) lv st) : xW p l e R s m args below meth c D A H0 nL cells slots Q ws pc lv (vI a :: st) :=
  x_if_ge C hd ht ha (fun h2 => absurd h2 h) (fun _ => k)
theorem x_icmp_gt (C : xC p s m args meth c D A H0 nL cc Ts own TY) {a b : Int} {off : Int} {tgt : Nat} (hd : decode cc pc = .ok (.if_icmp .gt off, 3)) (ht : (pc : Int) + off = (tgt : Int)) (ha : R32 a) (hb : R32 b) (kt : b < a → xW p l e R s m args below meth c D A H0 nL cells slots Q ws tgt lv st) (kf : ¬ (b < a) → xW p l e R s m args below meth c D A H0 nL cells slots Q ws (pc + 3) lv st) : xW p l e R s m args below meth c D A H0 nL cells slots Q ws pc lv (vI b :: vI a :: st) :=
  fun H locs la hP hD hS hl => lv_icmp_gt C.1 C.2.1 hd ht (fun h => kt ((xi_lt hb ha).mp h) H locs la hP hD hS hl) (fun h => kf (fun h2 => h ((xi_lt hb ha).mpr h2)) H locs la hP hD hS hl)
theorem x_icmp_gt_t (C : xC p s m args meth c D A H0 nL cc Ts own TY) {a b : Int} {off : Int} {tgt : Nat} (hd : decode cc pc = .ok (.if_icmp .gt off, 3)) (ht : (pc : Int) + off = (tgt : Int)) (ha : R32 a) (hb : R32 b) (h : b < a) (k : xW p l e R s m args below meth c D A H0 nL cells slots Q ws tgt lv st) : xW p l e R s m args below meth c D A H0 nL cells slots Q ws pc lv (vI b :: vI a :: st) :=
  x_icmp_gt C hd ht ha hb (fun _ => k) (fun h2 => absurd h h2)
theorem x_icmp_gt_f (C : xC p s m args meth c D A H0 nL cc Ts own TY) {a b : Int} {off : Int} {tgt : Nat} (hd : decode cc pc = .ok (.if_icmp .gt off, 3)) (ht : (pc : Int) + off = (tgt : Int)) (ha : R32 a) (hb : R32 b) (h : ¬ (b < a)) (k : xW p l e R s m args below meth c D A H0 nL cells slots Q ws (pc + 3) lv st) : xW p l e R s m args below meth c D A H0 nL cells slots Q ws pc lv (vI b :: vI a :: st) :=
  x_icmp_gt C hd ht ha hb (fun h2 => absurd h2 h) (fun _ => k)
theorem x_if_gt (C : xC p s m args meth c D A H0 nL cc Ts own TY) {a : Int} {off : Int} {tgt : Nat} (hd : decode cc pc = .ok (.ifCond .gt off, 3)) (ht : (pc : Int) + off = (tgt : Int)) (ha : R32 a) (kt : 0 < a → xW p l e R s m args below meth c D A H0 nL cells slots Q ws tgt lv st) (kf : ¬ (0 < a) → xW p l e R s m args below meth c D A H0 nL cells slots Q ws (pc + 3) lv st) : xW p l e R s m args below meth c D A H0 nL cells slots Q ws pc lv (vI a :: st) :=
  fun H locs la hP hD hS hl => lv_if_gt C.1 C.2.1 hd ht (fun h => kt ((xi_lt (by decide) ha).mp h) H locs la hP hD hS hl) (fun h => kf (fun h2 => h ((xi_lt (by decide) ha).mpr h2)) H locs la hP hD hS hl)
theorem x_if_gt_t (C : xC p s m args meth c D A H0 nL cc Ts own TY) {a : Int} {off : Int} {tgt : Nat} (hd : decode cc pc = .ok (.ifCond .gt off, 3)) (ht : (pc : Int) + off = (tgt : Int)) (ha : R32 a) (h : 0 < a) (k : xW p l e R s m args below meth c D A H0 nL cells slots Q ws tgt lv st) : xW p l e R s m args below meth c D A H0 nL cells slots Q ws pc lv (vI a :: st) :=
  x_if_gt C hd ht ha (fun _ => k) (fun h2 => absurd h h2)
theorem x_if_gt_f (C : xC p s m args meth c D A H0 nL cc Ts own TY) {a : Int} {off : Int} {tgt : Nat} (hd : decode cc pc = .ok (.ifCond .gt off, 3)) (ht : (pc : Int) + off = (tgt : Int)) (ha : R32 a) (h : ¬ (0 < a)) (k : xW p l e R s m args below meth c D A H0 nL cells slots Q ws (pc + 3) lv st) : xW p l e R s m args below meth c D A H0 nL cells slots Q ws pc lv (vI a :: st) :=
  x_if_gt C hd ht ha (fun h2 => absurd h2 h) (fun _ => k)
theorem x_icmp_le (C : xC p s m args meth c D A H0 nL cc Ts own TY) {a b : Int} {off : Int} {tgt : Nat} (hd : decode cc pc = .ok (.if_icmp .le off, 3)) (ht : (pc : Int) + off = (tgt : Int)) (ha : R32 a) (hb : R32 b) (kt : a ≤ b → xW p l e R s m args below meth c D A H0 nL cells slots Q ws tgt lv st) (kf : ¬ (a ≤ b) → xW p l e R s m args below meth c D A H0 nL cells slots Q ws (pc + 3) lv st) : xW p l e R s m args below meth c D A H0 nL cells slots Q ws pc lv (vI b :: vI a :: st) :=
  fun H locs la hP hD hS hl => lv_icmp_le C.1 C.2.1 hd ht (fun h => kt ((xi_le ha hb).mp h) H locs la hP hD hS hl) (fun h => kf (fun h2 => h ((xi_le ha hb).mpr h2)) H locs la hP hD hS hl)
theorem x_icmp_le_t (C : xC p s m args meth c D A H0 nL cc Ts own TY) {a b : Int} {off : Int} {tgt : Nat} (hd : decode cc pc = .ok (.if_icmp .le off, 3)) (ht : (pc : Int) + off = (tgt : Int)) (ha : R32 a) (hb : R32 b) (h : a ≤ b) (k : xW p l e R s m args below meth c D A H0 nL cells slots Q ws tgt lv st) : xW p l e R s m args below meth c D A H0 nL cells slots Q ws pc lv (vI b :: vI a :: st) :=
  x_icmp_le C hd ht ha hb (fun _ => k) (fun h2 => absurd h h2)
theorem x_icmp_le_f (C : xC p s m args meth c D A H0 nL cc Ts own TY) {a b : Int} {off : Int} {tgt : Nat} (hd : decode cc pc = .ok (.if_icmp .le off, 3)) (ht : (pc : Int) + off = (tgt : Int)) (ha : R32 a) (hb : R32 b) (h : ¬ (a ≤ b)) (k : xW p l e R s m args below meth c D A H0 nL cells slots Q ws (pc + 3) lv st) : xW p l e R s m args below meth c D A H0 nL cells slots Q ws pc lv (vI b :: vI a :: st) :=
  x_icmp_le C hd ht ha hb (fun h2 => absurd h2 h) (fun _ => k)
theorem x_if_le (C : xC p s m args meth c D A H0 nL cc Ts own TY) {a : Int} {off : Int} {tgt : Nat} (hd : decode cc pc = .ok (.ifCond .le off, 3)) (ht : (pc : Int) + off = (tgt : Int)) (ha : R32 a) (kt : a ≤ 0 → xW p l e R s m args below meth c D A H0 nL cells slots Q ws tgt lv st) (kf : ¬ (a ≤ 0) → xW p l e R s m args below meth c D A H0 nL cells slots Q ws (pc + 3) lv st) : xW p l e R s m args below meth c D A H0 nL cells slots Q ws pc lv (vI a :: st) :=
  fun H locs la hP hD hS hl => lv_if_le C.1 C.2.1 hd ht (fun h => kt ((xi_le ha (by decide)).mp h) H locs la hP hD hS hl) (fun h => kf (fun h2 => h ((xi_le ha (by decide)).mpr h2)) H locs la hP hD hS hl)
theorem x_if_le_t (C : xC p s m args meth c D A H0 nL cc Ts own TY) {a : Int} {off : Int} {tgt : Nat} (hd : decode cc pc = .ok (.ifCond .le off, 3)) (ht : (pc : Int) + off = (tgt : Int)) (ha : R32 a) (h : a ≤ 0) (k : xW p l e R s m args below meth c D A H0 nL cells slots Q ws tgt lv st) : xW p l e R s m args below meth c D A H0 nL cells slots Q ws pc lv (vI a :: st) :=
  x_if_le C hd ht ha (fun _ => k) (fun h2 => absurd h h2)
theorem x_if_le_f (C : xC p s m args meth c D A H0 nL cc Ts own TY) {a : Int} {off : Int} {tgt : Nat} (hd : decode cc pc = .ok (.ifCond .le off, 3)) (ht : (pc : Int) + off = (tgt : Int)) (ha : R32 a) (h : ¬ (a ≤ 0)) (k : xW p l e R s m args below meth c D A H0 nL cells slots Q ws (pc + 3) lv st) : xW p l e R s m args below meth c D A H0 nL cells slots Q ws pc lv (vI a :: st) :=
  x_if_le C hd ht ha (fun h2 => absurd h2 h) (fun _ => k)
theorem lg_v (x y : Int64) : lg_cmp x y = if y < x then 1 else if x = y then 0 else -1 := rfl
def lcI (a b : Int) : Int := if b < a then 1 else if a = b then 0 else -1
theorem lcI_r (a b : Int) : R32 (lcI a b) := by
  unfold lcI
  repeat' split
  all_goals omega
theorem lcI_lt (a b : Int) : lcI a b < 0 ↔ a < b := by
  unfold lcI
  repeat' split
  all_goals omega
theorem lcI_eq (a b : Int) : lcI a b = 0 ↔ a = b := by
  unfold lcI
  repeat' split
  all_goals omega
theorem lcI_gt (a b : Int) : 0 < lcI a b ↔ b < a := by
  unfold lcI
  repeat' split
  all_goals omega
theorem lcI_ge (a b : Int) : 0 ≤ lcI a b ↔ b ≤ a := by
  unfold lcI
  repeat' split
  all_goals omega
theorem lcI_le (a b : Int) : lcI a b ≤ 0 ↔ a ≤ b := by
  unfold lcI
  repeat' split
  all_goals omega
theorem x_lcmp (C : xC p s m args meth c D A H0 nL cc Ts own TY) {a b v : Int} (hv : lcI a b = v) (hd : decode cc pc = .ok (.lcmp, 1)) (ha : R64 a) (hb : R64 b) (k : xW p l e R s m args below meth c D A H0 nL cells slots Q ws (pc + 1) lv (vI v :: st)) : xW p l e R s m args below meth c D A H0 nL cells slots Q ws pc lv (vJ b :: vJ a :: st) := by
  intro H locs la hP hD hS hl
  refine W.lcmp C.1 C.2.1 hd ?_
  subst hv
  have k := k H locs la hP hD hS hl
  have e : lg_cmp (Int64.ofInt a) (Int64.ofInt b) = Int32.ofInt (lcI a b) := by
    rw [lg_v]
    simp only [xj_lt hb ha, xj_eq ha hb, lcI]
    split
    · rfl
    · split <;> rfl
  rw [e]
  exact k
end XL
end
section
-- the store: cells by their numbers
abbrev xD : Type := (Nat × List Nat) ⊕ (Nat × Nat × Nat × Nat × Nat)
def up1 {α : Type} (f : Nat → α) (k : Nat) (a : α) : Nat → α := fun j => if j = k then a else f j
def up2 {α : Type} (f : Nat → Nat → α) (i k : Nat) (a : α) : Nat → Nat → α := fun j => if j = i then up1 (f i) k a else f j
theorem up1_s {α : Type} (f : Nat → α) (k : Nat) (a : α) : up1 f k a k = a := by simp [up1]
theorem up1_n {α : Type} (f : Nat → α) {k j : Nat} (a : α) (h : j ≠ k) : up1 f k a j = f j := by simp [up1, h]
theorem up2_s {α : Type} (f : Nat → Nat → α) (i k : Nat) (a : α) : up2 f i k a i k = a := by simp [up2, up1]
theorem up2_n {α : Type} (f : Nat → Nat → α) {i k j q : Nat} (a : α) (h : j ≠ i ∨ q ≠ k) : up2 f i k a j q = f j q := by
  unfold up2 up1
  by_cases hj : j = i
  · subst hj
    rcases h with h | h
    · exact absurd rfl h
    · simp [h]
  · simp [hj]
theorem up2_c {α : Type} (f : Nat → Nat → α) {i k j : Nat} (a : α) (h : j ≠ i) : up2 f i k a j = f j := by simp [up2, h]
def xval (ad : Nat → Nat) (V : Nat → Int) (J : Nat → Int) (Rr : Nat → Nat) (k : Nat) : Nat → Value
  | 0 => vI (V k)
  | 1 => vJ (J k)
  | 2 => .ref (ad (Rr k))
  | q + 3 => .ref (ad q)
def xvals (ad : Nat → Nat) (V : Nat → Int) (J : Nat → Int) (Rr : Nat → Nat) : Nat → List Nat → List Value
  | _, [] => []
  | n, t :: ts => xval ad V J Rr n t :: xvals ad V J Rr (n + 1) ts
theorem xvals_get {ad : Nat → Nat} {V J : Nat → Int} {Rr : Nat → Nat} : ∀ (ks : List Nat) (n k : Nat) {t : Nat}, ks[k]? = some t → (xvals ad V J Rr n ks)[k]? = some (xval ad V J Rr (n + k) t)
  | [], n, k, t, h => by simp at h
  | q :: ks, n, 0, t, h => by simp at h; subst h; simp [xvals]
  | q :: ks, n, k + 1, t, h => by
    simp only [List.getElem?_cons_succ] at h
    simp only [xvals, List.getElem?_cons_succ]
    rw [xvals_get ks (n + 1) k h, show n + 1 + k = n + (k + 1) by omega]
theorem xvals_len {ad : Nat → Nat} {V J : Nat → Int} {Rr : Nat → Nat} : ∀ (ks : List Nat) (n : Nat), (xvals ad V J Rr n ks).length = ks.length
  | [], n => rfl
  | q :: ks, n => by simp [xvals, xvals_len ks (n + 1)]
theorem xvals_V {ad : Nat → Nat} {V V' J : Nat → Int} {Rr : Nat → Nat} : ∀ (ks : List Nat) (n : Nat), (∀ j, n ≤ j → V j = V' j) → xvals ad V J Rr n ks = xvals ad V' J Rr n ks
  | [], n, h => rfl
  | q :: ks, n, h => by
    simp only [xvals]
    rw [xvals_V ks (n + 1) (fun j hj => h j (by omega))]
    congr 1
    match q with
    | 0 => simp [xval, h n (Nat.le_refl n)]
    | 1 => rfl
    | 2 => rfl
    | q + 3 => rfl
theorem xvals_J {ad : Nat → Nat} {V J J' : Nat → Int} {Rr : Nat → Nat} : ∀ (ks : List Nat) (n : Nat), (∀ j, n ≤ j → J j = J' j) → xvals ad V J Rr n ks = xvals ad V J' Rr n ks
  | [], n, h => rfl
  | q :: ks, n, h => by
    simp only [xvals]
    rw [xvals_J ks (n + 1) (fun j hj => h j (by omega))]
    congr 1
    match q with
    | 0 => rfl
    | 1 => simp [xval, h n (Nat.le_refl n)]
    | 2 => rfl
    | q + 3 => rfl
theorem xvals_R {ad : Nat → Nat} {V J : Nat → Int} {Rr Rr' : Nat → Nat} : ∀ (ks : List Nat) (n : Nat), (∀ j, n ≤ j → Rr j = Rr' j) → xvals ad V J Rr n ks = xvals ad V J Rr' n ks
  | [], n, h => rfl
  | q :: ks, n, h => by
    simp only [xvals]
    rw [xvals_R ks (n + 1) (fun j hj => h j (by omega))]
    congr 1
    match q with
    | 0 => rfl
    | 1 => rfl
    | 2 => simp [xval, h n (Nat.le_refl n)]
    | q + 3 => rfl
theorem xvals_setV {ad : Nat → Nat} {V J : Nat → Int} {Rr : Nat → Nat} {a : Int} : ∀ (ks : List Nat) (n k : Nat), ks[k]? = some 0 → (xvals ad V J Rr n ks).set k (vI a) = xvals ad (up1 V (n + k) a) J Rr n ks
  | [], n, k, h => by simp at h
  | q :: ks, n, 0, h => by
    simp at h; subst h
    simp only [xvals, List.set_cons_zero, xval, Nat.add_zero, up1_s]
    congr 1
    exact xvals_V ks (n + 1) (fun j hj => (up1_n V a (by omega)).symm)
  | q :: ks, n, k + 1, h => by
    simp only [List.getElem?_cons_succ] at h
    simp only [xvals, List.set_cons_succ]
    rw [xvals_setV ks (n + 1) k h, show n + 1 + k = n + (k + 1) by omega]
    congr 1
    match q with
    | 0 => simp only [xval]; rw [up1_n V a (by omega)]
    | 1 => rfl
    | 2 => rfl
    | q + 3 => rfl
theorem xvals_setJ {ad : Nat → Nat} {V J : Nat → Int} {Rr : Nat → Nat} {a : Int} : ∀ (ks : List Nat) (n k : Nat), ks[k]? = some 1 → (xvals ad V J Rr n ks).set k (vJ a) = xvals ad V (up1 J (n + k) a) Rr n ks
  | [], n, k, h => by simp at h
  | q :: ks, n, 0, h => by
    simp at h; subst h
    simp only [xvals, List.set_cons_zero, xval, Nat.add_zero, up1_s]
    congr 1
    exact xvals_J ks (n + 1) (fun j hj => (up1_n J a (by omega)).symm)
  | q :: ks, n, k + 1, h => by
    simp only [List.getElem?_cons_succ] at h
    simp only [xvals, List.set_cons_succ]
    rw [xvals_setJ ks (n + 1) k h, show n + 1 + k = n + (k + 1) by omega]
    congr 1
    match q with
    | 0 => rfl
    | 1 => simp only [xval]; rw [up1_n J a (by omega)]
    | 2 => rfl
    | q + 3 => rfl
theorem xvals_setR {ad : Nat → Nat} {V J : Nat → Int} {Rr : Nat → Nat} {a : Nat} : ∀ (ks : List Nat) (n k : Nat), ks[k]? = some 2 → (xvals ad V J Rr n ks).set k (.ref (ad a)) = xvals ad V J (up1 Rr (n + k) a) n ks
  | [], n, k, h => by simp at h
  | q :: ks, n, 0, h => by
    simp at h; subst h
    simp only [xvals, List.set_cons_zero, xval, Nat.add_zero, up1_s]
    congr 1
    exact xvals_R ks (n + 1) (fun j hj => (up1_n Rr a (by omega)).symm)
  | q :: ks, n, k + 1, h => by
    simp only [List.getElem?_cons_succ] at h
    simp only [xvals, List.set_cons_succ]
    rw [xvals_setR ks (n + 1) k h, show n + 1 + k = n + (k + 1) by omega]
    congr 1
    match q with
    | 0 => rfl
    | 1 => rfl
    | 2 => simp only [xval]; rw [up1_n Rr a (by omega)]
    | q + 3 => rfl
def xE (cy : Nat → ClassId) (ad : Nat → Nat) (V J : Nat → Int) (Rr : Nat → Nat) : xD → va_E
  | .inl (ci, ks) => .inr (ci, xvals ad V J Rr 0 ks)
  | .inr (t, n, 0, _, _) => .inl (cy t, n, .inl (fun k => Int32.ofInt (V k)))
  | .inr (t, n, 1, _, _) => .inl (cy t, n, .inr (.inl (fun k => Int64.ofInt (J k))))
  | .inr (t, n, 2, _, _) => .inl (cy t, n, .inr (.inr (.inr (.inr (fun k => some (ad (Rr k)))))))
  | .inr (t, n, _ + 3, b, d) => .inl (cy t, n, .inr (.inr (.inr (.inr (fun k => some (ad (b + d * k)))))))
def xw (N : Nat) (dsc : Nat → xD) (cy : Nat → ClassId) (ad : Nat → Nat) (V J : Nat → Nat → Int) (Rr : Nat → Nat → Nat) : va_W := (List.range N).map (fun i => (ad i, xE cy ad (V i) (J i) (Rr i) (dsc i)))
section XWL
variable {N : Nat} {dsc : Nat → xD} {cy : Nat → ClassId} {ad : Nat → Nat} {V J : Nat → Nat → Int} {Rr : Nat → Nat → Nat}
theorem xw_at {i : Nat} {d : xD} (hi : i < N) (hd : dsc i = d) : (xw N dsc cy ad V J Rr)[i]? = some (ad i, xE cy ad (V i) (J i) (Rr i) d) := by
  subst hd
  simp [xw, hi]
theorem xw_set {i : Nat} {e : va_E} {V' J' : Nat → Nat → Int} {Rr' : Nat → Nat → Nat} (hi : i < N) (he : e = xE cy ad (V' i) (J' i) (Rr' i) (dsc i)) (hV : ∀ j, j ≠ i → V' j = V j) (hJ : ∀ j, j ≠ i → J' j = J j) (hR : ∀ j, j ≠ i → Rr' j = Rr j) : (xw N dsc cy ad V J Rr).set i (ad i, e) = xw N dsc cy ad V' J' Rr' := by
  apply List.ext_getElem?
  intro j
  by_cases hj : j = i
  · subst hj
    rw [List.getElem?_set_self (by simp [xw, hi])]
    simp [xw, hi, he]
  · rw [List.getElem?_set_ne (Ne.symm hj)]
    simp only [xw, List.getElem?_map]
    cases hb : (List.range N)[j]? with
    | none => rfl
    | some b =>
      have : b = j := by
        have h1 := (List.getElem?_eq_some_iff.mp hb).2
        simpa using h1.symm
      subst this
      simp [hV _ hj, hJ _ hj, hR _ hj]
end XWL
end
section
theorem WG_good2 (c1 : Cond) (h1 : c1 ∈ WG) : GoodIn WG (c1 :: WG) := by
  intro w hw
  have : w ∈ WG := by
    rcases List.mem_cons.mp hw with h | h
    · rw [h]; exact h1
    · exact h
  exact ⟨this, good_of_word (List.mem_filter.mp this).2⟩
def xNst : List (String × Nat × MethodName × String) := [(RX11, 24, yX8_init, RX11), (RX11, 40, yX2_init, RX11), (RX11, 54, yX7_init, RX11), (RX1, 11, yX9_init, RX11), (RX1, 31, yX0_init, RX11), (RX3, 27, yX5_init, RX11), (RX3, 28, yX4_init, RX11), (RX3, 55, yX11_isPlace, RX11), (RX6, 11, yX9_init, RX11), (RX10, 27, yX5_init, RX11)]
def xK (D : va_G) (TY : List (ClassId × FieldType)) (U : State) : Prop := va_K D vwCl TY U ∧ (∀ C ∈ [RX5, RX4, RX9], va_AO C U) ∧ ∀ q ∈ xNst, va_Nw (.methodLinkNest q.1 q.2.1 q.2.2.1 q.2.2.2) U
theorem xK.warm {D : va_G} {TY : List (ClassId × FieldType)} {s U : State} (hW : s.WarmedH U.vm) (h : xK D TY s) : xK D TY U := ⟨va_K.moved hW.alike h.1, fun C hC => va_AO.moved hW.alike (h.2.1 C hC), fun q hq => va_Nw.warmM hW (h.2.2 q hq)⟩
theorem xK.call {D : va_G} {TY : List (ClassId × FieldType)} {U : State} (g : JFrame) (mk : MethodId) (a : Array Value) (h : xK D TY U) : xK D TY (U.calling g mk a) := ⟨va_K.moved (u := U) (U := U.calling g mk a) (Vm.Alike.refl U.vm) h.1, fun C hC => va_AO.moved (u := U) (U := U.calling g mk a) (Vm.Alike.refl U.vm) (h.2.1 C hC), fun q hq => va_Nw.same (u := U) (U := U.calling g mk a) rfl rfl (h.2.2 q hq)⟩
def xPre (D : va_G) (TY : List (ClassId × FieldType)) (wc : va_W) (sz : Nat) (U : State) : Prop := U.heap.size = sz ∧ va_P D vwCl wc U.heap ∧ xK D TY U ∧ va_D (fun _ => True) wc
def xB (D : va_G) (A : Nat → Prop) {S : Type} (w1 : S → va_W) (u : S) (t : State) : Prop := va_P D vwCl (w1 u) t.heap ∧ va_D A (w1 u)
/-- a contract: int, long, nothing, reference -/
def xMi (l : Launch) (D : va_G) (TY : List (ClassId × FieldType)) (y : MethodName) (cc : ByteArray) (maxL : Nat) (ret : Option FieldType) (fr lo mc ms : Nat) (av : List Value) (wc : va_W) {S : Type} (w1 : S → va_W) (post : Int → S → Prop) : Prop := ∀ sz : Nat, Met l y (Cond.code y cc maxL ret :: WG) ({ frames := fr, cells := mc, slots := ms, locals := lo }) (va_Pc av (xPre D TY wc sz)) (va_Qi (fun r u => post r.toInt u) (xB D (va_A wc sz) w1) (va_A wc sz)) mc ms (va_A wc sz)
def xMl (l : Launch) (D : va_G) (TY : List (ClassId × FieldType)) (y : MethodName) (cc : ByteArray) (maxL : Nat) (ret : Option FieldType) (fr lo mc ms : Nat) (av : List Value) (wc : va_W) {S : Type} (w1 : S → va_W) (post : Int → S → Prop) : Prop := ∀ sz : Nat, Met l y (Cond.code y cc maxL ret :: WG) ({ frames := fr, cells := mc, slots := ms, locals := lo }) (va_Pc av (xPre D TY wc sz)) (va_Ql (fun r u => post r.toInt u) (xB D (va_A wc sz) w1) (va_A wc sz)) mc ms (va_A wc sz)
def xMv (l : Launch) (D : va_G) (TY : List (ClassId × FieldType)) (y : MethodName) (cc : ByteArray) (maxL : Nat) (ret : Option FieldType) (fr lo mc ms : Nat) (av : List Value) (wc : va_W) {S : Type} (w1 : S → va_W) (post : S → Prop) : Prop := ∀ sz : Nat, Met l y (Cond.code y cc maxL ret :: WG) ({ frames := fr, cells := mc, slots := ms, locals := lo }) (va_Pc av (xPre D TY wc sz)) (va_Qv (fun u => post u) (xB D (va_A wc sz) w1) (va_A wc sz)) mc ms (va_A wc sz)
theorem xPre.blind {D : va_G} {TY : List (ClassId × FieldType)} {wc : va_W} {sz : Nat} {av : List Value} : FrameBlind (va_Pc av (xPre D TY wc sz)) := fun a U g mk h => ⟨h.1, h.2.1, h.2.2.1, xK.call g mk a h.2.2.2.1, h.2.2.2.2⟩
theorem xframe {D : va_G} {ws wc l1 l2 w1 : va_W} {H H1 : Heap} {A0 : Nat → Prop} (hws : ws = l1 ++ wc ++ l2) (hP : va_P D vwCl ws H) (hD : va_D A0 ws) (hk : ∀ q : Nat, q < H.size → ¬ va_A wc H.size q → H1[q]? = H[q]?) (hF : ∀ q, va_A wc H.size q → A0 q) (hP1 : va_P D vwCl w1 H1) (hD1 : va_D (va_A wc H.size) w1) : va_P D vwCl (l1 ++ w1 ++ l2) H1 ∧ va_D A0 (l1 ++ w1 ++ l2) := by
  subst hws
  have e1 : ∀ (k : Nat) (q : Nat × va_E), l1[k]? = some q → (l1 ++ wc ++ l2)[k]? = some q := fun k q h => by
    have hl := (List.getElem?_eq_some_iff.mp h).1
    rw [List.append_assoc, List.getElem?_append_left hl]; exact h
  have e2 : ∀ (k : Nat) (q : Nat × va_E), wc[k]? = some q → (l1 ++ wc ++ l2)[l1.length + k]? = some q := fun k q h => by
    have hl := (List.getElem?_eq_some_iff.mp h).1
    rw [List.append_assoc, List.getElem?_append_right (by omega), Nat.add_sub_cancel_left, List.getElem?_append_left hl]; exact h
  have e3 : ∀ (k : Nat) (q : Nat × va_E), l2[k]? = some q → (l1 ++ wc ++ l2)[l1.length + wc.length + k]? = some q := fun k q h => by
    rw [List.getElem?_append_right (by simp)]
    simp only [List.length_append, Nat.add_sub_cancel_left]; exact h
  have a1 : ∀ (k : Nat) (q : Nat × va_E), l1[k]? = some q → q.1 < H.size ∧ ¬ va_A wc H.size q.1 := by
    intro k q h
    have hl := (hP _ q (e1 k q h)).lt
    refine ⟨hl, fun hh => ?_⟩
    rcases hh with ⟨k2, e, h2⟩ | h2
    · have := hD.1 _ _ q (q.1, e) (e1 k q h) (e2 k2 _ h2) rfl
      have hl := (List.getElem?_eq_some_iff.mp h).1
      omega
    · omega
  have a2 : ∀ (k : Nat) (q : Nat × va_E), l2[k]? = some q → q.1 < H.size ∧ ¬ va_A wc H.size q.1 := by
    intro k q h
    have hl := (hP _ q (e3 k q h)).lt
    refine ⟨hl, fun hh => ?_⟩
    rcases hh with ⟨k2, e, h2⟩ | h2
    · have := hD.1 _ _ q (q.1, e) (e3 k q h) (e2 k2 _ h2) rfl
      have hl := (List.getElem?_eq_some_iff.mp h2).1
      omega
    · omega
  have p1 : va_P D vwCl l1 H1 := fun k q h => (hP _ q (e1 k q h)).kept (hk q.1 (a1 k q h).1 (a1 k q h).2)
  have p2 : va_P D vwCl l2 H1 := fun k q h => (hP _ q (e3 k q h)).kept (hk q.1 (a2 k q h).1 (a2 k q h).2)
  have d1 : va_D A0 l1 := ⟨fun i j x y hx hy hxy => hD.1 i j x y (e1 i x hx) (e1 j y hy) hxy, fun k q h => hD.2 _ q (e1 k q h)⟩
  have d2 : va_D A0 l2 := ⟨fun i j x y hx hy hxy => by
    have := hD.1 _ _ x y (e3 i x hx) (e3 j y hy) hxy
    omega, fun k q h => hD.2 _ q (e3 k q h)⟩
  have dw : va_D A0 w1 := hD1.weaken (fun k q _ h => hF q.1 h)
  refine ⟨va_P.app (va_P.app p1 hP1) p2, va_D.app (va_D.app d1 dw (fun i j x y hx hy hxy => ?_)) d2 (fun i j x y hx hy hxy => ?_)⟩
  · exact (a1 i x hx).2 (by rw [hxy]; exact hD1.2 j y hy)
  · by_cases hl : i < l1.length
    · rw [List.getElem?_append_left hl] at hx
      have := hD.1 _ _ x y (e1 i x hx) (e3 j y hy) hxy
      omega
    · rw [List.getElem?_append_right (by omega)] at hx
      exact (a2 j y hy).2 (by rw [← hxy]; exact hD1.2 _ x hx)
theorem xfree {D : va_G} {ws wc l1 l2 : va_W} {H H0 : Heap} {A0 : Nat → Prop} {locs : List Loc} (hws : ws = l1 ++ wc ++ l2) (hD : va_D A0 ws) (hS : va_S A0 H0 H locs) (hA : ∀ q : Nat, H0.size ≤ q → A0 q) : ∀ q, va_A wc H.size q → A0 q := by
  subst hws
  intro q h
  rcases h with ⟨k, e, h⟩ | h
  · have hl := (List.getElem?_eq_some_iff.mp h).1
    refine hD.2 (l1.length + k) (q, e) ?_
    rw [List.append_assoc, List.getElem?_append_right (by omega), Nat.add_sub_cancel_left, List.getElem?_append_left hl]; exact h
  · exact hA q (Nat.le_trans hS.1 h)
theorem xsubP {D : va_G} {ws wc l1 l2 : va_W} {H : Heap} (hws : ws = l1 ++ wc ++ l2) (hP : va_P D vwCl ws H) : va_P D vwCl wc H := by
  subst hws
  intro k q h
  have hl := (List.getElem?_eq_some_iff.mp h).1
  refine hP (l1.length + k) q ?_
  rw [List.append_assoc, List.getElem?_append_right (by omega), Nat.add_sub_cancel_left, List.getElem?_append_left hl]; exact h
theorem xsubD {ws wc l1 l2 : va_W} {A0 : Nat → Prop} (hws : ws = l1 ++ wc ++ l2) (hD : va_D A0 ws) : va_D (fun _ => True) wc := by
  subst hws
  have e2 : ∀ (k : Nat) (q : Nat × va_E), wc[k]? = some q → (l1 ++ wc ++ l2)[l1.length + k]? = some q := fun k q h => by
    have hl := (List.getElem?_eq_some_iff.mp h).1
    rw [List.append_assoc, List.getElem?_append_right (by omega), Nat.add_sub_cancel_left, List.getElem?_append_left hl]; exact h
  exact ⟨fun i j x y hx hy hxy => by
    have := hD.1 _ _ x y (e2 i x hx) (e2 j y hy) hxy
    omega, fun _ _ _ => trivial⟩
section XCL
variable {p : Program} {l : Launch} {e : Env} {R : Room} {s : State} {m : MethodId} {args : Array Value} {below : List Frame} {meth : Method} {c : Code} {cells slots : Nat} {Q : State → Prop}
variable {D : va_G} {A : Nat → Prop} {H0 : Heap} {nL : Nat} {ws : va_W} {pc : Nat} {lv : List (Nat × Value)} {st rest : List Value} {cc : ByteArray} {own : String} {TY : List (ClassId × FieldType)}
abbrev xC2 (p : Program) (s : State) (m : MethodId) (args : Array Value) (meth : Method) (c : Code) (D : va_G) (A : Nat → Prop) (H0 : Heap) (nL : Nat) (cc : ByteArray) (own : String) (TY : List (ClassId × FieldType)) : Prop :=
  xC p s m args meth c D A H0 nL cc WG own TY ∧ (∀ C ∈ [RX5, RX4, RX9], va_AO C s) ∧ ∀ q ∈ xNst, va_Nw (.methodLinkNest q.1 q.2.1 q.2.2.1 q.2.2.2) s
theorem xC2.K (C : xC2 p s m args meth c D A H0 nL cc own TY) : xK D TY s := ⟨C.1.2.2.2.2.2.1, C.2⟩
theorem xC2.fix (C : xC2 p s m args meth c D A H0 nL cc own TY) : CallFix p m c cc nL s args WG own := ⟨C.1.1, C.1.2.1, C.1.2.2.1, C.1.2.2.2.1, C.1.2.2.2.2.1⟩
theorem x_callSi (C : xC2 p s m args meth c D A H0 nL cc own TY) {y : MethodName} {bytes : ByteArray} {maxL fr lo mc ms n index : Nat} {ret : Option FieldType} {As : List Value} {wc : va_W} {S : Type} {w1 : S → va_W} {post : Int → S → Prop} (hM : xMi l D TY y bytes maxL ret fr lo mc ms As wc w1 post) {l1 l2 : va_W} (hws : ws = l1 ++ wc ++ l2) {w2 : S → va_W} (hw2 : ∀ u, l1 ++ w1 u ++ l2 = w2 u) (hst : st = As.reverse ++ rest) (hcode : Cond.code y bytes maxL ret ∈ WG) (hini : Cond.initialized y.cls ∈ WG) (hlink : Cond.methodLink own index y ∈ WG) (hst2 : Cond.static y ∈ WG) (hd2 : y.cls ≠ "java/lang/invoke/MethodHandle" ∧ y.cls ≠ "java/lang/invoke/VarHandle" ∧ (parseMethodDescriptor y.desc).map (fun d => d.parameters.length) = some n) (hn : As.length = n) (hR : fr + 1 ≤ R.frames ∧ 8 + (maxL + 11) + lo ≤ R.locals) (hW : (rest.map fun v => v.category).sum ≤ 8) (hf : cells + mc ≤ R.cells ∧ slots + ms ≤ R.slots) (hdg : decode cc pc = .ok (.invokestatic index, 3)) (kk : ∀ (r : Int) (u : S), R32 r → post r u → xW p l e R s m args below meth c D A H0 nL (cells + mc) (slots + ms) Q (w2 u) (pc + 3) lv (vI r :: rest)) : xW p l e R s m args below meth c D A H0 nL cells slots Q ws pc lv st := by
  subst hst
  intro H locs la hP hD hS hl
  have hF := xfree (D := D) hws hD hS C.1.2.2.2.2.2.2.1
  refine va_calli (va_runS C.fix (hM H.size) ⟨callB_of n C.1.2.2.2.2.1 (WG_good2 _ hcode) rfl rfl rfl (C.1.2.2.2.2.1 _ hini) (C.1.2.2.2.2.1 _ hlink) hd2 hR, C.1.2.2.2.2.1 _ hst2⟩ ⟨xPre.blind, fun U hU hW => ⟨rfl, by rw [hU], by rw [hU]; exact xsubP hws hP, xK.warm hW C.K, xsubD hws hD⟩⟩ rfl hn hl.1 rfl (lv_room hW) hdg hf) hS (fun q _ h => hF q h) hF (fun r u t H1 locs ht hvm hw hB hz1 hk1 hS => ?_)
  obtain ⟨hP1, hD1⟩ := hB
  rw [ht] at hP1
  obtain ⟨hP2, hD2⟩ := xframe hws hP hD hk1 hF hP1 hD1
  rw [hw2] at hP2 hD2
  have := kk r.toInt u (xi_r r) hw H1 locs la hP2 hD2 hS hl
  rw [vI, xi_of] at this
  exact this
theorem x_callSl (C : xC2 p s m args meth c D A H0 nL cc own TY) {y : MethodName} {bytes : ByteArray} {maxL fr lo mc ms n index : Nat} {ret : Option FieldType} {As : List Value} {wc : va_W} {S : Type} {w1 : S → va_W} {post : Int → S → Prop} (hM : xMl l D TY y bytes maxL ret fr lo mc ms As wc w1 post) {l1 l2 : va_W} (hws : ws = l1 ++ wc ++ l2) {w2 : S → va_W} (hw2 : ∀ u, l1 ++ w1 u ++ l2 = w2 u) (hst : st = As.reverse ++ rest) (hcode : Cond.code y bytes maxL ret ∈ WG) (hini : Cond.initialized y.cls ∈ WG) (hlink : Cond.methodLink own index y ∈ WG) (hst2 : Cond.static y ∈ WG) (hd2 : y.cls ≠ "java/lang/invoke/MethodHandle" ∧ y.cls ≠ "java/lang/invoke/VarHandle" ∧ (parseMethodDescriptor y.desc).map (fun d => d.parameters.length) = some n) (hn : As.length = n) (hR : fr + 1 ≤ R.frames ∧ 8 + (maxL + 11) + lo ≤ R.locals) (hW : (rest.map fun v => v.category).sum ≤ 8) (hf : cells + mc ≤ R.cells ∧ slots + ms ≤ R.slots) (hdg : decode cc pc = .ok (.invokestatic index, 3)) (kk : ∀ (r : Int) (u : S), R64 r → post r u → xW p l e R s m args below meth c D A H0 nL (cells + mc) (slots + ms) Q (w2 u) (pc + 3) lv (vJ r :: rest)) : xW p l e R s m args below meth c D A H0 nL cells slots Q ws pc lv st := by
  subst hst
  intro H locs la hP hD hS hl
  have hF := xfree (D := D) hws hD hS C.1.2.2.2.2.2.2.1
  refine va_calll (va_runS C.fix (hM H.size) ⟨callB_of n C.1.2.2.2.2.1 (WG_good2 _ hcode) rfl rfl rfl (C.1.2.2.2.2.1 _ hini) (C.1.2.2.2.2.1 _ hlink) hd2 hR, C.1.2.2.2.2.1 _ hst2⟩ ⟨xPre.blind, fun U hU hW => ⟨rfl, by rw [hU], by rw [hU]; exact xsubP hws hP, xK.warm hW C.K, xsubD hws hD⟩⟩ rfl hn hl.1 rfl (lv_room hW) hdg hf) hS (fun q _ h => hF q h) hF (fun r u t H1 locs ht hvm hw hB hz1 hk1 hS => ?_)
  obtain ⟨hP1, hD1⟩ := hB
  rw [ht] at hP1
  obtain ⟨hP2, hD2⟩ := xframe hws hP hD hk1 hF hP1 hD1
  rw [hw2] at hP2 hD2
  have := kk r.toInt u (xj_r r) hw H1 locs la hP2 hD2 hS hl
  rw [vJ, xj_of] at this
  exact this
theorem x_callSv (C : xC2 p s m args meth c D A H0 nL cc own TY) {y : MethodName} {bytes : ByteArray} {maxL fr lo mc ms n index : Nat} {ret : Option FieldType} {As : List Value} {wc : va_W} {S : Type} {w1 : S → va_W} {post : S → Prop} (hM : xMv l D TY y bytes maxL ret fr lo mc ms As wc w1 post) {l1 l2 : va_W} (hws : ws = l1 ++ wc ++ l2) {w2 : S → va_W} (hw2 : ∀ u, l1 ++ w1 u ++ l2 = w2 u) (hst : st = As.reverse ++ rest) (hcode : Cond.code y bytes maxL ret ∈ WG) (hini : Cond.initialized y.cls ∈ WG) (hlink : Cond.methodLink own index y ∈ WG) (hst2 : Cond.static y ∈ WG) (hd2 : y.cls ≠ "java/lang/invoke/MethodHandle" ∧ y.cls ≠ "java/lang/invoke/VarHandle" ∧ (parseMethodDescriptor y.desc).map (fun d => d.parameters.length) = some n) (hn : As.length = n) (hR : fr + 1 ≤ R.frames ∧ 8 + (maxL + 11) + lo ≤ R.locals) (hW : (rest.map fun v => v.category).sum ≤ 8) (hf : cells + mc ≤ R.cells ∧ slots + ms ≤ R.slots) (hdg : decode cc pc = .ok (.invokestatic index, 3)) (kk : ∀ (u : S), post u → xW p l e R s m args below meth c D A H0 nL (cells + mc) (slots + ms) Q (w2 u) (pc + 3) lv rest) : xW p l e R s m args below meth c D A H0 nL cells slots Q ws pc lv st := by
  subst hst
  intro H locs la hP hD hS hl
  have hF := xfree (D := D) hws hD hS C.1.2.2.2.2.2.2.1
  refine va_callv (va_runS C.fix (hM H.size) ⟨callB_of n C.1.2.2.2.2.1 (WG_good2 _ hcode) rfl rfl rfl (C.1.2.2.2.2.1 _ hini) (C.1.2.2.2.2.1 _ hlink) hd2 hR, C.1.2.2.2.2.1 _ hst2⟩ ⟨xPre.blind, fun U hU hW => ⟨rfl, by rw [hU], by rw [hU]; exact xsubP hws hP, xK.warm hW C.K, xsubD hws hD⟩⟩ rfl hn hl.1 rfl (lv_room hW) hdg hf) hS (fun q _ h => hF q h) hF (fun u t H1 locs ht hvm hw hB hz1 hk1 hS => ?_)
  obtain ⟨hP1, hD1⟩ := hB
  rw [ht] at hP1
  obtain ⟨hP2, hD2⟩ := xframe hws hP hD hk1 hF hP1 hD1
  rw [hw2] at hP2 hD2
  exact kk u hw H1 locs la hP2 hD2 hS hl
theorem x_callVi (C : xC2 p s m args meth c D A H0 nL cc own TY) {y : MethodName} {bytes : ByteArray} {maxL fr lo mc ms n index : Nat} {ret : Option FieldType} {As : List Value} {wc : va_W} {S : Type} {w1 : S → va_W} {post : Int → S → Prop} {b : Nat} {Cn : String} {T : u_T} {NN ci : Nat} {fs : List Value} (q0 : Nat) (he : ws[q0]? = some (b, .inr (ci, fs))) (hcl : vwCl[ci]? = some (Cn, T, NN)) (hM : xMi l D TY y bytes maxL ret fr lo mc ms (.ref b :: As) wc w1 post) {l1 l2 : va_W} (hws : ws = l1 ++ wc ++ l2) {w2 : S → va_W} (hw2 : ∀ u, l1 ++ w1 u ++ l2 = w2 u) (hst : st = As.reverse ++ .ref b :: rest) (hcode : Cond.code y bytes maxL ret ∈ WG) (hini : Cond.initialized y.cls ∈ WG) (hlink : Cond.methodLink own index y ∈ WG) (hst2 : Cond.instanceMethod y ∈ WG) (hsel : Cond.selects Cn y y ∈ WG) (hd2 : y.cls ≠ "java/lang/invoke/MethodHandle" ∧ y.cls ≠ "java/lang/invoke/VarHandle" ∧ (parseMethodDescriptor y.desc).map (fun d => d.parameters.length) = some n) (hn : As.length = n) (hR : fr + 1 ≤ R.frames ∧ 8 + (maxL + 11) + lo ≤ R.locals) (hW : (rest.map fun v => v.category).sum ≤ 8) (hf : cells + mc ≤ R.cells ∧ slots + ms ≤ R.slots) (hdg : decode cc pc = .ok (.invokevirtual index, 3)) (kk : ∀ (r : Int) (u : S), R32 r → post r u → xW p l e R s m args below meth c D A H0 nL (cells + mc) (slots + ms) Q (w2 u) (pc + 3) lv (vI r :: rest)) : xW p l e R s m args below meth c D A H0 nL cells slots Q ws pc lv st := by
  subst hst
  intro H locs la hP hD hS hl
  have hF := xfree (D := D) hws hD hS C.1.2.2.2.2.2.2.1
  refine va_calli (va_runV C.fix (hM H.size) ⟨callB_of n C.1.2.2.2.2.1 (WG_good2 _ hcode) rfl rfl rfl (C.1.2.2.2.2.1 _ hini) (C.1.2.2.2.2.1 _ hlink) hd2 hR, C.1.2.2.2.2.1 _ hst2, C.1.2.2.2.2.1 _ hsel⟩ ⟨xPre.blind, va_recv C.1.2.2.2.2.2.1 hP hcl he, fun U hU hW => ⟨rfl, by rw [hU], by rw [hU]; exact xsubP hws hP, xK.warm hW C.K, xsubD hws hD⟩⟩ rfl hn hl.1 rfl (lv_room hW) hdg hf) hS (fun q _ h => hF q h) hF (fun r u t H1 locs ht hvm hw hB hz1 hk1 hS => ?_)
  obtain ⟨hP1, hD1⟩ := hB
  rw [ht] at hP1
  obtain ⟨hP2, hD2⟩ := xframe hws hP hD hk1 hF hP1 hD1
  rw [hw2] at hP2 hD2
  have := kk r.toInt u (xi_r r) hw H1 locs la hP2 hD2 hS hl
  rw [vI, xi_of] at this
  exact this
theorem x_callVl (C : xC2 p s m args meth c D A H0 nL cc own TY) {y : MethodName} {bytes : ByteArray} {maxL fr lo mc ms n index : Nat} {ret : Option FieldType} {As : List Value} {wc : va_W} {S : Type} {w1 : S → va_W} {post : Int → S → Prop} {b : Nat} {Cn : String} {T : u_T} {NN ci : Nat} {fs : List Value} (q0 : Nat) (he : ws[q0]? = some (b, .inr (ci, fs))) (hcl : vwCl[ci]? = some (Cn, T, NN)) (hM : xMl l D TY y bytes maxL ret fr lo mc ms (.ref b :: As) wc w1 post) {l1 l2 : va_W} (hws : ws = l1 ++ wc ++ l2) {w2 : S → va_W} (hw2 : ∀ u, l1 ++ w1 u ++ l2 = w2 u) (hst : st = As.reverse ++ .ref b :: rest) (hcode : Cond.code y bytes maxL ret ∈ WG) (hini : Cond.initialized y.cls ∈ WG) (hlink : Cond.methodLink own index y ∈ WG) (hst2 : Cond.instanceMethod y ∈ WG) (hsel : Cond.selects Cn y y ∈ WG) (hd2 : y.cls ≠ "java/lang/invoke/MethodHandle" ∧ y.cls ≠ "java/lang/invoke/VarHandle" ∧ (parseMethodDescriptor y.desc).map (fun d => d.parameters.length) = some n) (hn : As.length = n) (hR : fr + 1 ≤ R.frames ∧ 8 + (maxL + 11) + lo ≤ R.locals) (hW : (rest.map fun v => v.category).sum ≤ 8) (hf : cells + mc ≤ R.cells ∧ slots + ms ≤ R.slots) (hdg : decode cc pc = .ok (.invokevirtual index, 3)) (kk : ∀ (r : Int) (u : S), R64 r → post r u → xW p l e R s m args below meth c D A H0 nL (cells + mc) (slots + ms) Q (w2 u) (pc + 3) lv (vJ r :: rest)) : xW p l e R s m args below meth c D A H0 nL cells slots Q ws pc lv st := by
  subst hst
  intro H locs la hP hD hS hl
  have hF := xfree (D := D) hws hD hS C.1.2.2.2.2.2.2.1
  refine va_calll (va_runV C.fix (hM H.size) ⟨callB_of n C.1.2.2.2.2.1 (WG_good2 _ hcode) rfl rfl rfl (C.1.2.2.2.2.1 _ hini) (C.1.2.2.2.2.1 _ hlink) hd2 hR, C.1.2.2.2.2.1 _ hst2, C.1.2.2.2.2.1 _ hsel⟩ ⟨xPre.blind, va_recv C.1.2.2.2.2.2.1 hP hcl he, fun U hU hW => ⟨rfl, by rw [hU], by rw [hU]; exact xsubP hws hP, xK.warm hW C.K, xsubD hws hD⟩⟩ rfl hn hl.1 rfl (lv_room hW) hdg hf) hS (fun q _ h => hF q h) hF (fun r u t H1 locs ht hvm hw hB hz1 hk1 hS => ?_)
  obtain ⟨hP1, hD1⟩ := hB
  rw [ht] at hP1
  obtain ⟨hP2, hD2⟩ := xframe hws hP hD hk1 hF hP1 hD1
  rw [hw2] at hP2 hD2
  have := kk r.toInt u (xj_r r) hw H1 locs la hP2 hD2 hS hl
  rw [vJ, xj_of] at this
  exact this
theorem x_callVv (C : xC2 p s m args meth c D A H0 nL cc own TY) {y : MethodName} {bytes : ByteArray} {maxL fr lo mc ms n index : Nat} {ret : Option FieldType} {As : List Value} {wc : va_W} {S : Type} {w1 : S → va_W} {post : S → Prop} {b : Nat} {Cn : String} {T : u_T} {NN ci : Nat} {fs : List Value} (q0 : Nat) (he : ws[q0]? = some (b, .inr (ci, fs))) (hcl : vwCl[ci]? = some (Cn, T, NN)) (hM : xMv l D TY y bytes maxL ret fr lo mc ms (.ref b :: As) wc w1 post) {l1 l2 : va_W} (hws : ws = l1 ++ wc ++ l2) {w2 : S → va_W} (hw2 : ∀ u, l1 ++ w1 u ++ l2 = w2 u) (hst : st = As.reverse ++ .ref b :: rest) (hcode : Cond.code y bytes maxL ret ∈ WG) (hini : Cond.initialized y.cls ∈ WG) (hlink : Cond.methodLink own index y ∈ WG) (hst2 : Cond.instanceMethod y ∈ WG) (hsel : Cond.selects Cn y y ∈ WG) (hd2 : y.cls ≠ "java/lang/invoke/MethodHandle" ∧ y.cls ≠ "java/lang/invoke/VarHandle" ∧ (parseMethodDescriptor y.desc).map (fun d => d.parameters.length) = some n) (hn : As.length = n) (hR : fr + 1 ≤ R.frames ∧ 8 + (maxL + 11) + lo ≤ R.locals) (hW : (rest.map fun v => v.category).sum ≤ 8) (hf : cells + mc ≤ R.cells ∧ slots + ms ≤ R.slots) (hdg : decode cc pc = .ok (.invokevirtual index, 3)) (kk : ∀ (u : S), post u → xW p l e R s m args below meth c D A H0 nL (cells + mc) (slots + ms) Q (w2 u) (pc + 3) lv rest) : xW p l e R s m args below meth c D A H0 nL cells slots Q ws pc lv st := by
  subst hst
  intro H locs la hP hD hS hl
  have hF := xfree (D := D) hws hD hS C.1.2.2.2.2.2.2.1
  refine va_callv (va_runV C.fix (hM H.size) ⟨callB_of n C.1.2.2.2.2.1 (WG_good2 _ hcode) rfl rfl rfl (C.1.2.2.2.2.1 _ hini) (C.1.2.2.2.2.1 _ hlink) hd2 hR, C.1.2.2.2.2.1 _ hst2, C.1.2.2.2.2.1 _ hsel⟩ ⟨xPre.blind, va_recv C.1.2.2.2.2.2.1 hP hcl he, fun U hU hW => ⟨rfl, by rw [hU], by rw [hU]; exact xsubP hws hP, xK.warm hW C.K, xsubD hws hD⟩⟩ rfl hn hl.1 rfl (lv_room hW) hdg hf) hS (fun q _ h => hF q h) hF (fun u t H1 locs ht hvm hw hB hz1 hk1 hS => ?_)
  obtain ⟨hP1, hD1⟩ := hB
  rw [ht] at hP1
  obtain ⟨hP2, hD2⟩ := xframe hws hP hD hk1 hF hP1 hD1
  rw [hw2] at hP2 hD2
  exact kk u hw H1 locs la hP2 hD2 hS hl
theorem x_callIv (C : xC2 p s m args meth c D A H0 nL cc own TY) {y : MethodName} {bytes : ByteArray} {maxL fr lo mc ms n index : Nat} {As : List Value} {wc : va_W} {S : Type} {w1 : S → va_W} {post : S → Prop} {b : Nat} (hM : xMv l D TY y bytes maxL none fr lo mc ms (.ref b :: As) wc w1 post) {l1 l2 : va_W} (hws : ws = l1 ++ wc ++ l2) {w2 : S → va_W} (hw2 : ∀ u, l1 ++ w1 u ++ l2 = w2 u) (hst : st = As.reverse ++ .ref b :: rest) (hcode : Cond.code y bytes maxL none ∈ WG) (hini : Cond.initialized y.cls ∈ WG) (hlink : Cond.methodLink own index y ∈ WG) (hst2 : Cond.instanceMethod y ∈ WG) (hy1 : y.name = "<init>") (hd2 : y.cls ≠ "java/lang/invoke/MethodHandle" ∧ y.cls ≠ "java/lang/invoke/VarHandle" ∧ (parseMethodDescriptor y.desc).map (fun d => d.parameters.length) = some n) (hn : As.length = n) (hR : fr + 1 ≤ R.frames ∧ 8 + (maxL + 11) + lo ≤ R.locals) (hW : (rest.map fun v => v.category).sum ≤ 8) (hf : cells + mc ≤ R.cells ∧ slots + ms ≤ R.slots) (hdg : decode cc pc = .ok (.invokespecial index, 3)) (kk : ∀ (u : S), post u → xW p l e R s m args below meth c D A H0 nL (cells + mc) (slots + ms) Q (w2 u) (pc + 3) lv rest) : xW p l e R s m args below meth c D A H0 nL cells slots Q ws pc lv st := by
  subst hst
  intro H locs la hP hD hS hl
  have hF := xfree (D := D) hws hD hS C.1.2.2.2.2.2.2.1
  refine va_callv (va_runI C.fix (hM H.size) ⟨callB_of n C.1.2.2.2.2.1 (WG_good2 _ hcode) rfl rfl rfl (C.1.2.2.2.2.1 _ hini) (C.1.2.2.2.2.1 _ hlink) hd2 hR, hy1, C.1.2.2.2.2.1 _ hst2⟩ ⟨xPre.blind, fun U hU hW => ⟨rfl, by rw [hU], by rw [hU]; exact xsubP hws hP, xK.warm hW C.K, xsubD hws hD⟩⟩ rfl hn hl.1 rfl (lv_room hW) hdg hf) hS (fun q _ h => hF q h) hF (fun u t H1 locs ht hvm hw hB hz1 hk1 hS => ?_)
  obtain ⟨hP1, hD1⟩ := hB
  rw [ht] at hP1
  obtain ⟨hP2, hD2⟩ := xframe hws hP hD hk1 hF hP1 hD1
  rw [hw2] at hP2 hD2
  exact kk u hw H1 locs la hP2 hD2 hS hl
theorem x_callSNi (C : xC2 p s m args meth c D A H0 nL cc own TY) {y : MethodName} {bytes : ByteArray} {maxL fr lo mc ms n index : Nat} {ret : Option FieldType} {As : List Value} {wc : va_W} {S : Type} {w1 : S → va_W} {post : Int → S → Prop} {host : String} (hM : xMi l D TY y bytes maxL ret fr lo mc ms As wc w1 post) {l1 l2 : va_W} (hws : ws = l1 ++ wc ++ l2) {w2 : S → va_W} (hw2 : ∀ u, l1 ++ w1 u ++ l2 = w2 u) (hst : st = As.reverse ++ rest) (hcode : Cond.code y bytes maxL ret ∈ WG) (hini : Cond.initialized y.cls ∈ WG) (hlink : (own, index, y, host) ∈ xNst) (hst2 : Cond.static y ∈ WG) (hd2 : y.cls ≠ "java/lang/invoke/MethodHandle" ∧ y.cls ≠ "java/lang/invoke/VarHandle" ∧ (parseMethodDescriptor y.desc).map (fun d => d.parameters.length) = some n) (hn : As.length = n) (hR : fr + 1 ≤ R.frames ∧ 8 + (maxL + 11) + lo ≤ R.locals) (hW : (rest.map fun v => v.category).sum ≤ 8) (hf : cells + mc ≤ R.cells ∧ slots + ms ≤ R.slots) (hdg : decode cc pc = .ok (.invokestatic index, 3)) (kk : ∀ (r : Int) (u : S), R32 r → post r u → xW p l e R s m args below meth c D A H0 nL (cells + mc) (slots + ms) Q (w2 u) (pc + 3) lv (vI r :: rest)) : xW p l e R s m args below meth c D A H0 nL cells slots Q ws pc lv st := by
  subst hst
  intro H locs la hP hD hS hl
  have hF := xfree (D := D) hws hD hS C.1.2.2.2.2.2.2.1
  refine va_calli (va_runSN C.fix (hM H.size) ⟨va_cnB n C.1.2.2.2.2.1 (WG_good2 _ hcode) rfl rfl rfl (C.2.2 _ hlink) (C.1.2.2.2.2.1 _ hini) hd2 hR, C.1.2.2.2.2.1 _ hst2, trivial⟩ ⟨xPre.blind, fun U hU hW => ⟨rfl, by rw [hU], by rw [hU]; exact xsubP hws hP, xK.warm hW C.K, xsubD hws hD⟩⟩ rfl hn hl.1 rfl (lv_room hW) hdg hf) hS (fun q _ h => hF q h) hF (fun r u t H1 locs ht hvm hw hB hz1 hk1 hS => ?_)
  obtain ⟨hP1, hD1⟩ := hB
  rw [ht] at hP1
  obtain ⟨hP2, hD2⟩ := xframe hws hP hD hk1 hF hP1 hD1
  rw [hw2] at hP2 hD2
  have := kk r.toInt u (xi_r r) hw H1 locs la hP2 hD2 hS hl
  rw [vI, xi_of] at this
  exact this
theorem x_callSNl (C : xC2 p s m args meth c D A H0 nL cc own TY) {y : MethodName} {bytes : ByteArray} {maxL fr lo mc ms n index : Nat} {ret : Option FieldType} {As : List Value} {wc : va_W} {S : Type} {w1 : S → va_W} {post : Int → S → Prop} {host : String} (hM : xMl l D TY y bytes maxL ret fr lo mc ms As wc w1 post) {l1 l2 : va_W} (hws : ws = l1 ++ wc ++ l2) {w2 : S → va_W} (hw2 : ∀ u, l1 ++ w1 u ++ l2 = w2 u) (hst : st = As.reverse ++ rest) (hcode : Cond.code y bytes maxL ret ∈ WG) (hini : Cond.initialized y.cls ∈ WG) (hlink : (own, index, y, host) ∈ xNst) (hst2 : Cond.static y ∈ WG) (hd2 : y.cls ≠ "java/lang/invoke/MethodHandle" ∧ y.cls ≠ "java/lang/invoke/VarHandle" ∧ (parseMethodDescriptor y.desc).map (fun d => d.parameters.length) = some n) (hn : As.length = n) (hR : fr + 1 ≤ R.frames ∧ 8 + (maxL + 11) + lo ≤ R.locals) (hW : (rest.map fun v => v.category).sum ≤ 8) (hf : cells + mc ≤ R.cells ∧ slots + ms ≤ R.slots) (hdg : decode cc pc = .ok (.invokestatic index, 3)) (kk : ∀ (r : Int) (u : S), R64 r → post r u → xW p l e R s m args below meth c D A H0 nL (cells + mc) (slots + ms) Q (w2 u) (pc + 3) lv (vJ r :: rest)) : xW p l e R s m args below meth c D A H0 nL cells slots Q ws pc lv st := by
  subst hst
  intro H locs la hP hD hS hl
  have hF := xfree (D := D) hws hD hS C.1.2.2.2.2.2.2.1
  refine va_calll (va_runSN C.fix (hM H.size) ⟨va_cnB n C.1.2.2.2.2.1 (WG_good2 _ hcode) rfl rfl rfl (C.2.2 _ hlink) (C.1.2.2.2.2.1 _ hini) hd2 hR, C.1.2.2.2.2.1 _ hst2, trivial⟩ ⟨xPre.blind, fun U hU hW => ⟨rfl, by rw [hU], by rw [hU]; exact xsubP hws hP, xK.warm hW C.K, xsubD hws hD⟩⟩ rfl hn hl.1 rfl (lv_room hW) hdg hf) hS (fun q _ h => hF q h) hF (fun r u t H1 locs ht hvm hw hB hz1 hk1 hS => ?_)
  obtain ⟨hP1, hD1⟩ := hB
  rw [ht] at hP1
  obtain ⟨hP2, hD2⟩ := xframe hws hP hD hk1 hF hP1 hD1
  rw [hw2] at hP2 hD2
  have := kk r.toInt u (xj_r r) hw H1 locs la hP2 hD2 hS hl
  rw [vJ, xj_of] at this
  exact this
theorem x_callSNv (C : xC2 p s m args meth c D A H0 nL cc own TY) {y : MethodName} {bytes : ByteArray} {maxL fr lo mc ms n index : Nat} {ret : Option FieldType} {As : List Value} {wc : va_W} {S : Type} {w1 : S → va_W} {post : S → Prop} {host : String} (hM : xMv l D TY y bytes maxL ret fr lo mc ms As wc w1 post) {l1 l2 : va_W} (hws : ws = l1 ++ wc ++ l2) {w2 : S → va_W} (hw2 : ∀ u, l1 ++ w1 u ++ l2 = w2 u) (hst : st = As.reverse ++ rest) (hcode : Cond.code y bytes maxL ret ∈ WG) (hini : Cond.initialized y.cls ∈ WG) (hlink : (own, index, y, host) ∈ xNst) (hst2 : Cond.static y ∈ WG) (hd2 : y.cls ≠ "java/lang/invoke/MethodHandle" ∧ y.cls ≠ "java/lang/invoke/VarHandle" ∧ (parseMethodDescriptor y.desc).map (fun d => d.parameters.length) = some n) (hn : As.length = n) (hR : fr + 1 ≤ R.frames ∧ 8 + (maxL + 11) + lo ≤ R.locals) (hW : (rest.map fun v => v.category).sum ≤ 8) (hf : cells + mc ≤ R.cells ∧ slots + ms ≤ R.slots) (hdg : decode cc pc = .ok (.invokestatic index, 3)) (kk : ∀ (u : S), post u → xW p l e R s m args below meth c D A H0 nL (cells + mc) (slots + ms) Q (w2 u) (pc + 3) lv rest) : xW p l e R s m args below meth c D A H0 nL cells slots Q ws pc lv st := by
  subst hst
  intro H locs la hP hD hS hl
  have hF := xfree (D := D) hws hD hS C.1.2.2.2.2.2.2.1
  refine va_callv (va_runSN C.fix (hM H.size) ⟨va_cnB n C.1.2.2.2.2.1 (WG_good2 _ hcode) rfl rfl rfl (C.2.2 _ hlink) (C.1.2.2.2.2.1 _ hini) hd2 hR, C.1.2.2.2.2.1 _ hst2, trivial⟩ ⟨xPre.blind, fun U hU hW => ⟨rfl, by rw [hU], by rw [hU]; exact xsubP hws hP, xK.warm hW C.K, xsubD hws hD⟩⟩ rfl hn hl.1 rfl (lv_room hW) hdg hf) hS (fun q _ h => hF q h) hF (fun u t H1 locs ht hvm hw hB hz1 hk1 hS => ?_)
  obtain ⟨hP1, hD1⟩ := hB
  rw [ht] at hP1
  obtain ⟨hP2, hD2⟩ := xframe hws hP hD hk1 hF hP1 hD1
  rw [hw2] at hP2 hD2
  exact kk u hw H1 locs la hP2 hD2 hS hl
theorem x_callINv (C : xC2 p s m args meth c D A H0 nL cc own TY) {y : MethodName} {bytes : ByteArray} {maxL fr lo mc ms n index : Nat} {As : List Value} {wc : va_W} {S : Type} {w1 : S → va_W} {post : S → Prop} {b : Nat} {host : String} (hM : xMv l D TY y bytes maxL none fr lo mc ms (.ref b :: As) wc w1 post) {l1 l2 : va_W} (hws : ws = l1 ++ wc ++ l2) {w2 : S → va_W} (hw2 : ∀ u, l1 ++ w1 u ++ l2 = w2 u) (hst : st = As.reverse ++ .ref b :: rest) (hcode : Cond.code y bytes maxL none ∈ WG) (hini : Cond.initialized y.cls ∈ WG) (hlink : (own, index, y, host) ∈ xNst) (hst2 : Cond.instanceMethod y ∈ WG) (hy1 : y.name = "<init>") (hd2 : y.cls ≠ "java/lang/invoke/MethodHandle" ∧ y.cls ≠ "java/lang/invoke/VarHandle" ∧ (parseMethodDescriptor y.desc).map (fun d => d.parameters.length) = some n) (hn : As.length = n) (hR : fr + 1 ≤ R.frames ∧ 8 + (maxL + 11) + lo ≤ R.locals) (hW : (rest.map fun v => v.category).sum ≤ 8) (hf : cells + mc ≤ R.cells ∧ slots + ms ≤ R.slots) (hdg : decode cc pc = .ok (.invokespecial index, 3)) (kk : ∀ (u : S), post u → xW p l e R s m args below meth c D A H0 nL (cells + mc) (slots + ms) Q (w2 u) (pc + 3) lv rest) : xW p l e R s m args below meth c D A H0 nL cells slots Q ws pc lv st := by
  subst hst
  intro H locs la hP hD hS hl
  have hF := xfree (D := D) hws hD hS C.1.2.2.2.2.2.2.1
  refine va_callv (va_runIN C.fix (hM H.size) ⟨va_cnB n C.1.2.2.2.2.1 (WG_good2 _ hcode) rfl rfl rfl (C.2.2 _ hlink) (C.1.2.2.2.2.1 _ hini) hd2 hR, hy1, C.1.2.2.2.2.1 _ hst2⟩ ⟨xPre.blind, fun U hU hW => ⟨rfl, by rw [hU], by rw [hU]; exact xsubP hws hP, xK.warm hW C.K, xsubD hws hD⟩⟩ rfl hn hl.1 rfl (lv_room hW) hdg hf) hS (fun q _ h => hF q h) hF (fun u t H1 locs ht hvm hw hB hz1 hk1 hS => ?_)
  obtain ⟨hP1, hD1⟩ := hB
  rw [ht] at hP1
  obtain ⟨hP2, hD2⟩ := xframe hws hP hD hk1 hF hP1 hD1
  rw [hw2] at hP2 hD2
  exact kk u hw H1 locs la hP2 hD2 hS hl
/-- a method's start -/
theorem xMi.mk {y : MethodName} {bytes : ByteArray} {maxL fr lo mc ms : Nat} {ret : Option FieldType} {av : List Value} {wc : va_W} {S : Type} {w1 : S → va_W} {post : Int → S → Prop} {lv0 : List (Nat × Value)} (hy : plainName y.cls = true) (hlv : lv_args 0 av = lv0) (hl : (lg_sl av).length ≤ maxL)
    (body : ∀ (p : Program) (e : Env) (s : State) (m : MethodId) (below : List Frame) (meth : Method) (c : Code) (A : Nat → Prop), xC2 p s m av.toArray meth c D A s.heap maxL bytes y.cls TY → meth.sig.returnType = ret → meth.name = y.name → A = va_A wc s.heap.size → xW p l e ({ frames := fr, cells := mc, slots := ms, locals := lo }) s m av.toArray below meth c D A s.heap maxL 0 0 (MQ below (va_Qi (fun r u => post r.toInt u) (xB D A w1) A) av.toArray s mc ms A) wc 0 lv0 []) : xMi l D TY y bytes maxL ret fr lo mc ms av wc w1 post := by
  intro sz
  refine Met.ofW (cc := bytes) (maxL := maxL) (ret := ret) hy rfl ?_
  intro p e s m args below meth c s₁ B hml hv
  obtain ⟨rfl, hsz, hP, hK, hD0⟩ := hv
  have hts := atoms_spec (ws := Cond.code y bytes maxL ret :: WG) B.pre
  have hown : s.vm.findClass y.cls = some m.cls := findClass_of_methodNamed B.named
  subst hsz
  subst hlv
  rw [lg_entry_eq]
  exact body p e s m below meth c (va_A wc s.heap.size) ⟨⟨B.exec, B.bytes, hml, hown, fun w h => hts w (List.mem_cons_of_mem _ h), hK.1, fun q h => Or.inr h, B.notSynchronized⟩, hK.2⟩ B.returns (name_of_methodNamed B.named B.method).1 rfl s.heap [] _ hP (hD0.self (sz := s.heap.size)) va_S.rf (lv_entry av hl)
theorem xMl.mk {y : MethodName} {bytes : ByteArray} {maxL fr lo mc ms : Nat} {ret : Option FieldType} {av : List Value} {wc : va_W} {S : Type} {w1 : S → va_W} {post : Int → S → Prop} {lv0 : List (Nat × Value)} (hy : plainName y.cls = true) (hlv : lv_args 0 av = lv0) (hl : (lg_sl av).length ≤ maxL)
    (body : ∀ (p : Program) (e : Env) (s : State) (m : MethodId) (below : List Frame) (meth : Method) (c : Code) (A : Nat → Prop), xC2 p s m av.toArray meth c D A s.heap maxL bytes y.cls TY → meth.sig.returnType = ret → meth.name = y.name → A = va_A wc s.heap.size → xW p l e ({ frames := fr, cells := mc, slots := ms, locals := lo }) s m av.toArray below meth c D A s.heap maxL 0 0 (MQ below (va_Ql (fun r u => post r.toInt u) (xB D A w1) A) av.toArray s mc ms A) wc 0 lv0 []) : xMl l D TY y bytes maxL ret fr lo mc ms av wc w1 post := by
  intro sz
  refine Met.ofW (cc := bytes) (maxL := maxL) (ret := ret) hy rfl ?_
  intro p e s m args below meth c s₁ B hml hv
  obtain ⟨rfl, hsz, hP, hK, hD0⟩ := hv
  have hts := atoms_spec (ws := Cond.code y bytes maxL ret :: WG) B.pre
  have hown : s.vm.findClass y.cls = some m.cls := findClass_of_methodNamed B.named
  subst hsz
  subst hlv
  rw [lg_entry_eq]
  exact body p e s m below meth c (va_A wc s.heap.size) ⟨⟨B.exec, B.bytes, hml, hown, fun w h => hts w (List.mem_cons_of_mem _ h), hK.1, fun q h => Or.inr h, B.notSynchronized⟩, hK.2⟩ B.returns (name_of_methodNamed B.named B.method).1 rfl s.heap [] _ hP (hD0.self (sz := s.heap.size)) va_S.rf (lv_entry av hl)
theorem xMv.mk {y : MethodName} {bytes : ByteArray} {maxL fr lo mc ms : Nat} {ret : Option FieldType} {av : List Value} {wc : va_W} {S : Type} {w1 : S → va_W} {post : S → Prop} {lv0 : List (Nat × Value)} (hy : plainName y.cls = true) (hlv : lv_args 0 av = lv0) (hl : (lg_sl av).length ≤ maxL)
    (body : ∀ (p : Program) (e : Env) (s : State) (m : MethodId) (below : List Frame) (meth : Method) (c : Code) (A : Nat → Prop), xC2 p s m av.toArray meth c D A s.heap maxL bytes y.cls TY → meth.sig.returnType = ret → meth.name = y.name → A = va_A wc s.heap.size → xW p l e ({ frames := fr, cells := mc, slots := ms, locals := lo }) s m av.toArray below meth c D A s.heap maxL 0 0 (MQ below (va_Qv (fun u => post u) (xB D A w1) A) av.toArray s mc ms A) wc 0 lv0 []) : xMv l D TY y bytes maxL ret fr lo mc ms av wc w1 post := by
  intro sz
  refine Met.ofW (cc := bytes) (maxL := maxL) (ret := ret) hy rfl ?_
  intro p e s m args below meth c s₁ B hml hv
  obtain ⟨rfl, hsz, hP, hK, hD0⟩ := hv
  have hts := atoms_spec (ws := Cond.code y bytes maxL ret :: WG) B.pre
  have hown : s.vm.findClass y.cls = some m.cls := findClass_of_methodNamed B.named
  subst hsz
  subst hlv
  rw [lg_entry_eq]
  exact body p e s m below meth c (va_A wc s.heap.size) ⟨⟨B.exec, B.bytes, hml, hown, fun w h => hts w (List.mem_cons_of_mem _ h), hK.1, fun q h => Or.inr h, B.notSynchronized⟩, hK.2⟩ B.returns (name_of_methodNamed B.named B.method).1 rfl s.heap [] _ hP (hD0.self (sz := s.heap.size)) va_S.rf (lv_entry av hl)
/-- a method's ends -/
theorem x_iret {S : Type} {w1 : S → va_W} {post : Int → S → Prop} {a : Int} (C : xC2 p s m args meth c D A H0 nL cc own TY) (hr : meth.sig.returnType = some .int) (hH : H0 = s.heap) (hd : decode cc pc = .ok (.ireturn, 1)) (ha : R32 a) (u : S) (hw : ws = w1 u) (hp : post a u) : xW p l e R s m args below meth c D A H0 nL cells slots (MQ below (va_Qi (fun r u => post r.toInt u) (xB D A w1) A) args s cells slots A) ws pc lv [vI a] := by
  subst hw; subst hH
  intro H locs la hP hD hS hl
  exact W.iret C.1.1 C.1.2.1 hr (fun t ht hW => ⟨⟨Int32.ofInt a, u, rfl, by show post (Int32.ofInt a).toInt u; rw [xi_toInt ha]; exact hp, by rw [ht]; exact hP, hD⟩, hS.F ht⟩) hS.2.2 hd C.1.2.2.2.2.2.2.2
theorem x_zret {S : Type} {w1 : S → va_W} {post : Int → S → Prop} {a : Int} (C : xC2 p s m args meth c D A H0 nL cc own TY) (hr : meth.sig.returnType = some .boolean) (hH : H0 = s.heap) (hd : decode cc pc = .ok (.ireturn, 1)) (ha : a = 0 ∨ a = 1) (u : S) (hw : ws = w1 u) (hp : post a u) : xW p l e R s m args below meth c D A H0 nL cells slots (MQ below (va_Qi (fun r u => post r.toInt u) (xB D A w1) A) args s cells slots A) ws pc lv [vI a] := by
  subst hw; subst hH
  intro H locs la hP hD hS hl
  refine W.zret C.1.1 C.1.2.1 hr ?_ (fun t ht hW => ⟨⟨Int32.ofInt a, u, rfl, by show post (Int32.ofInt a).toInt u; rw [xi_toInt (by omega)]; exact hp, by rw [ht]; exact hP, hD⟩, hS.F ht⟩) hS.2.2 hd C.1.2.2.2.2.2.2.2
  rcases ha with rfl | rfl <;> decide
theorem x_lret {S : Type} {w1 : S → va_W} {post : Int → S → Prop} {a : Int} (C : xC2 p s m args meth c D A H0 nL cc own TY) (hr : meth.sig.returnType = some .long) (hH : H0 = s.heap) (hd : decode cc pc = .ok (.lreturn, 1)) (ha : R64 a) (u : S) (hw : ws = w1 u) (hp : post a u) : xW p l e R s m args below meth c D A H0 nL cells slots (MQ below (va_Ql (fun r u => post r.toInt u) (xB D A w1) A) args s cells slots A) ws pc lv [vJ a] := by
  subst hw; subst hH
  intro H locs la hP hD hS hl
  exact W.lret C.1.1 C.1.2.1 hr (fun t ht hW => ⟨⟨Int64.ofInt a, u, rfl, by show post (Int64.ofInt a).toInt u; rw [xj_toInt ha]; exact hp, by rw [ht]; exact hP, hD⟩, hS.F ht⟩) hS.2.2 hd C.1.2.2.2.2.2.2.2
theorem x_vret {S : Type} {w1 : S → va_W} {post : S → Prop} (C : xC2 p s m args meth c D A H0 nL cc own TY) (hr : meth.sig.returnType = none) (hH : H0 = s.heap) (hd : decode cc pc = .ok (.return_, 1)) (u : S) (hw : ws = w1 u) (hp : post u) : xW p l e R s m args below meth c D A H0 nL cells slots (MQ below (va_Qv (fun u => post u) (xB D A w1) A) args s cells slots A) ws pc lv [] := by
  subst hw; subst hH
  intro H locs la hP hD hS hl
  exact W.vret C.1.1 C.1.2.1 hr (fun t ht hW => ⟨⟨u, rfl, hp, by rw [ht]; exact hP, hD⟩, hS.F ht⟩) hS.2.2 hd C.1.2.2.2.2.2.2.2
theorem x_widen {k n : Nat} (h1 : cells ≤ k) (h2 : slots ≤ n) (kk : xW p l e R s m args below meth c D A H0 nL k n Q ws pc lv st) : xW p l e R s m args below meth c D A H0 nL cells slots Q ws pc lv st := fun H locs la hP hD hS hl => W.widen h1 h2 (kk H locs la hP hD hS hl)
end XCL
end
section
section XWR
variable {p : Program} {l : Launch} {e : Env} {R : Room} {s : State} {m : MethodId} {args : Array Value} {below : List Frame} {meth : Method} {c : Code} {cells slots : Nat} {Q : State → Prop}
variable {D : va_G} {A : Nat → Prop} {H0 : Heap} {nL : Nat} {pc : Nat} {lv : List (Nat × Value)} {st : List Value} {cc : ByteArray} {own : String} {cy : Nat → ClassId}
variable {N : Nat} {dsc : Nat → xD} {ad : Nat → Nat} {V J : Nat → Nat → Int} {Rr : Nat → Nat → Nat}
abbrev xTY (cy : Nat → ClassId) : List (ClassId × FieldType) := [(cy 0, .int), (cy 1, .long), (cy 2, .byte), (cy 3, .char), (cy 4, .object RX5), (cy 5, .object RX4), (cy 6, .object RX9)]
theorem x_getI (C : xC2 p s m args meth c D A H0 nL cc own (xTY cy)) {i ci : Nat} {ks : List Nat} (hi : i < N) (hds : dsc i = .inl (ci, ks)) {Cn : String} {T : u_T} {NN index : Nat} (hc : vwCl[ci]? = some (Cn, T, NN)) (hin : ∀ w ∈ u_ws Cn T NN, w ∈ WG) (k : Nat) (hk : k < NN) (hw : Cond.fieldLink own index (T k).1 (T k).2.1 (T k).2.2.1 ∈ WG) (hks : ks[k]? = some 0) (hd : decode cc pc = .ok (.getfield index, 3)) {a : Int} (hv : V i k = a) (kk : xW p l e R s m args below meth c D A H0 nL cells slots Q (xw N dsc cy ad V J Rr) (pc + 3) lv (vI a :: st)) : xW p l e R s m args below meth c D A H0 nL cells slots Q (xw N dsc cy ad V J Rr) pc lv (.ref (ad i) :: st) :=
  fun H locs la hP hD hS hl => va_get C.1.1 C.1.2.1 C.1.2.2.2.2.1 hin C.1.2.2.2.1 C.1.2.2.2.2.2.1 hP i (xw_at hi hds) hc k hk (C.1.2.2.2.2.1 _ hw) (fun _ h => h) (v := vI a) (by rw [xvals_get ks 0 k hks, Nat.zero_add]; simp only [xval, hv]) hd (kk H locs la hP hD hS hl)
theorem x_getJ (C : xC2 p s m args meth c D A H0 nL cc own (xTY cy)) {i ci : Nat} {ks : List Nat} (hi : i < N) (hds : dsc i = .inl (ci, ks)) {Cn : String} {T : u_T} {NN index : Nat} (hc : vwCl[ci]? = some (Cn, T, NN)) (hin : ∀ w ∈ u_ws Cn T NN, w ∈ WG) (k : Nat) (hk : k < NN) (hw : Cond.fieldLink own index (T k).1 (T k).2.1 (T k).2.2.1 ∈ WG) (hks : ks[k]? = some 1) (hd : decode cc pc = .ok (.getfield index, 3)) {a : Int} (hv : J i k = a) (kk : xW p l e R s m args below meth c D A H0 nL cells slots Q (xw N dsc cy ad V J Rr) (pc + 3) lv (vJ a :: st)) : xW p l e R s m args below meth c D A H0 nL cells slots Q (xw N dsc cy ad V J Rr) pc lv (.ref (ad i) :: st) :=
  fun H locs la hP hD hS hl => va_get C.1.1 C.1.2.1 C.1.2.2.2.2.1 hin C.1.2.2.2.1 C.1.2.2.2.2.2.1 hP i (xw_at hi hds) hc k hk (C.1.2.2.2.2.1 _ hw) (fun _ h => h) (v := vJ a) (by rw [xvals_get ks 0 k hks, Nat.zero_add]; simp only [xval, hv]) hd (kk H locs la hP hD hS hl)
theorem x_getR (C : xC2 p s m args meth c D A H0 nL cc own (xTY cy)) {i ci : Nat} {ks : List Nat} (hi : i < N) (hds : dsc i = .inl (ci, ks)) {Cn : String} {T : u_T} {NN index : Nat} (hc : vwCl[ci]? = some (Cn, T, NN)) (hin : ∀ w ∈ u_ws Cn T NN, w ∈ WG) (k : Nat) (hk : k < NN) (hw : Cond.fieldLink own index (T k).1 (T k).2.1 (T k).2.2.1 ∈ WG) (hks : ks[k]? = some 2) (hd : decode cc pc = .ok (.getfield index, 3)) {a : Nat} (hv : Rr i k = a) (kk : xW p l e R s m args below meth c D A H0 nL cells slots Q (xw N dsc cy ad V J Rr) (pc + 3) lv (.ref (ad a) :: st)) : xW p l e R s m args below meth c D A H0 nL cells slots Q (xw N dsc cy ad V J Rr) pc lv (.ref (ad i) :: st) :=
  fun H locs la hP hD hS hl => va_get C.1.1 C.1.2.1 C.1.2.2.2.2.1 hin C.1.2.2.2.1 C.1.2.2.2.2.2.1 hP i (xw_at hi hds) hc k hk (C.1.2.2.2.2.1 _ hw) (fun _ h => h) (v := .ref (ad a)) (by rw [xvals_get ks 0 k hks, Nat.zero_add]; simp only [xval, hv]) hd (kk H locs la hP hD hS hl)
theorem x_getA (C : xC2 p s m args meth c D A H0 nL cc own (xTY cy)) {i ci : Nat} {ks : List Nat} (hi : i < N) (hds : dsc i = .inl (ci, ks)) {Cn : String} {T : u_T} {NN index : Nat} (hc : vwCl[ci]? = some (Cn, T, NN)) (hin : ∀ w ∈ u_ws Cn T NN, w ∈ WG) (k : Nat) (hk : k < NN) (hw : Cond.fieldLink own index (T k).1 (T k).2.1 (T k).2.2.1 ∈ WG) {a : Nat} (hks : ks[k]? = some (a + 3)) (hd : decode cc pc = .ok (.getfield index, 3))  (kk : xW p l e R s m args below meth c D A H0 nL cells slots Q (xw N dsc cy ad V J Rr) (pc + 3) lv (.ref (ad a) :: st)) : xW p l e R s m args below meth c D A H0 nL cells slots Q (xw N dsc cy ad V J Rr) pc lv (.ref (ad i) :: st) :=
  fun H locs la hP hD hS hl => va_get C.1.1 C.1.2.1 C.1.2.2.2.2.1 hin C.1.2.2.2.1 C.1.2.2.2.2.2.1 hP i (xw_at hi hds) hc k hk (C.1.2.2.2.2.1 _ hw) (fun _ h => h) (v := .ref (ad a)) (by rw [xvals_get ks 0 k hks, Nat.zero_add]; rfl) hd (kk H locs la hP hD hS hl)
theorem x_putI (C : xC2 p s m args meth c D A H0 nL cc own (xTY cy)) {i ci : Nat} {ks : List Nat} (hi : i < N) (hds : dsc i = .inl (ci, ks)) {Cn : String} {T : u_T} {NN index : Nat} (hc : vwCl[ci]? = some (Cn, T, NN)) (hin : ∀ w ∈ u_ws Cn T NN, w ∈ WG) (k : Nat) (hk : k < NN) (hw : Cond.fieldLink own index (T k).1 (T k).2.1 (T k).2.2.1 ∈ WG) (ty0 : Nat → FieldType) (hty : ∀ k, k < NN → parseFieldDescriptor (T k).2.2.1 = some (ty0 k)) (hnm : ∀ a, a < NN → ∀ b, b < NN → a ≠ b → (T a).2.1 ≠ (T b).2.1) (hfin : (T k).2.2.2 = false) {ty : FieldType} (hpd : parseFieldDescriptor (T k).2.2.1 = some ty) (hks : ks[k]? = some 0) (hd : decode cc pc = .ok (.putfield index, 3)) {a : Int} (hnar : narrow ty (vI a) = vI a) (hfit : fits ty (vI a) = true) (kk : xW p l e R s m args below meth c D A H0 nL cells slots Q (xw N dsc cy ad (up2 V i k a) J Rr) (pc + 3) lv st) : xW p l e R s m args below meth c D A H0 nL cells slots Q (xw N dsc cy ad V J Rr) pc lv (vI a :: .ref (ad i) :: st) := by
  intro H locs la hP hD hS hl
  have e1 : (xw N dsc cy ad V J Rr).set i (ad i, .inr (ci, (xvals ad (V i) (J i) (Rr i) 0 ks).set k (vI a))) = xw N dsc cy ad (up2 V i k a) J Rr := by
    refine xw_set hi ?_ (fun j hj => up2_c _ _ hj) (fun j hj => rfl) (fun j hj => rfl)
    rw [hds, xvals_setV ks 0 k hks]
    simp [xE, up2]
  refine va_put C.1.1 C.1.2.1 C.1.2.2.2.2.1 hin ty0 hty hnm C.1.2.2.2.1 C.1.2.2.2.2.2.1 hP hD hS i (xw_at hi hds) hc k hk (C.1.2.2.2.2.1 _ hw) (fun _ h => h) hfin hpd hnar hfit (by rw [xvals_len]; exact (List.getElem?_eq_some_iff.mp hks).1) hd (fun H1 locs1 hP1 hD1 hS1 => ?_)
  rw [e1] at hP1 hD1
  exact kk H1 locs1 la hP1 hD1 hS1 hl
theorem x_putJ (C : xC2 p s m args meth c D A H0 nL cc own (xTY cy)) {i ci : Nat} {ks : List Nat} (hi : i < N) (hds : dsc i = .inl (ci, ks)) {Cn : String} {T : u_T} {NN index : Nat} (hc : vwCl[ci]? = some (Cn, T, NN)) (hin : ∀ w ∈ u_ws Cn T NN, w ∈ WG) (k : Nat) (hk : k < NN) (hw : Cond.fieldLink own index (T k).1 (T k).2.1 (T k).2.2.1 ∈ WG) (ty0 : Nat → FieldType) (hty : ∀ k, k < NN → parseFieldDescriptor (T k).2.2.1 = some (ty0 k)) (hnm : ∀ a, a < NN → ∀ b, b < NN → a ≠ b → (T a).2.1 ≠ (T b).2.1) (hfin : (T k).2.2.2 = false) {ty : FieldType} (hpd : parseFieldDescriptor (T k).2.2.1 = some ty) (hks : ks[k]? = some 1) (hd : decode cc pc = .ok (.putfield index, 3)) {a : Int} (hnar : narrow ty (vJ a) = vJ a) (hfit : fits ty (vJ a) = true) (kk : xW p l e R s m args below meth c D A H0 nL cells slots Q (xw N dsc cy ad V (up2 J i k a) Rr) (pc + 3) lv st) : xW p l e R s m args below meth c D A H0 nL cells slots Q (xw N dsc cy ad V J Rr) pc lv (vJ a :: .ref (ad i) :: st) := by
  intro H locs la hP hD hS hl
  have e1 : (xw N dsc cy ad V J Rr).set i (ad i, .inr (ci, (xvals ad (V i) (J i) (Rr i) 0 ks).set k (vJ a))) = xw N dsc cy ad V (up2 J i k a) Rr := by
    refine xw_set hi ?_ (fun j hj => rfl) (fun j hj => up2_c _ _ hj) (fun j hj => rfl)
    rw [hds, xvals_setJ ks 0 k hks]
    simp [xE, up2]
  refine va_put C.1.1 C.1.2.1 C.1.2.2.2.2.1 hin ty0 hty hnm C.1.2.2.2.1 C.1.2.2.2.2.2.1 hP hD hS i (xw_at hi hds) hc k hk (C.1.2.2.2.2.1 _ hw) (fun _ h => h) hfin hpd hnar hfit (by rw [xvals_len]; exact (List.getElem?_eq_some_iff.mp hks).1) hd (fun H1 locs1 hP1 hD1 hS1 => ?_)
  rw [e1] at hP1 hD1
  exact kk H1 locs1 la hP1 hD1 hS1 hl
theorem x_putR (C : xC2 p s m args meth c D A H0 nL cc own (xTY cy)) {i ci : Nat} {ks : List Nat} (hi : i < N) (hds : dsc i = .inl (ci, ks)) {Cn : String} {T : u_T} {NN index : Nat} (hc : vwCl[ci]? = some (Cn, T, NN)) (hin : ∀ w ∈ u_ws Cn T NN, w ∈ WG) (k : Nat) (hk : k < NN) (hw : Cond.fieldLink own index (T k).1 (T k).2.1 (T k).2.2.1 ∈ WG) (ty0 : Nat → FieldType) (hty : ∀ k, k < NN → parseFieldDescriptor (T k).2.2.1 = some (ty0 k)) (hnm : ∀ a, a < NN → ∀ b, b < NN → a ≠ b → (T a).2.1 ≠ (T b).2.1) (hfin : (T k).2.2.2 = false) {ty : FieldType} (hpd : parseFieldDescriptor (T k).2.2.1 = some ty) (hks : ks[k]? = some 2) (hd : decode cc pc = .ok (.putfield index, 3)) {a : Nat} (hnar : narrow ty (.ref (ad a)) = .ref (ad a)) (hfit : fits ty (.ref (ad a)) = true) (kk : xW p l e R s m args below meth c D A H0 nL cells slots Q (xw N dsc cy ad V J (up2 Rr i k a)) (pc + 3) lv st) : xW p l e R s m args below meth c D A H0 nL cells slots Q (xw N dsc cy ad V J Rr) pc lv (.ref (ad a) :: .ref (ad i) :: st) := by
  intro H locs la hP hD hS hl
  have e1 : (xw N dsc cy ad V J Rr).set i (ad i, .inr (ci, (xvals ad (V i) (J i) (Rr i) 0 ks).set k (.ref (ad a)))) = xw N dsc cy ad V J (up2 Rr i k a) := by
    refine xw_set hi ?_ (fun j hj => rfl) (fun j hj => rfl) (fun j hj => up2_c _ _ hj)
    rw [hds, xvals_setR ks 0 k hks]
    simp [xE, up2]
  refine va_put C.1.1 C.1.2.1 C.1.2.2.2.2.1 hin ty0 hty hnm C.1.2.2.2.1 C.1.2.2.2.2.2.1 hP hD hS i (xw_at hi hds) hc k hk (C.1.2.2.2.2.1 _ hw) (fun _ h => h) hfin hpd hnar hfit (by rw [xvals_len]; exact (List.getElem?_eq_some_iff.mp hks).1) hd (fun H1 locs1 hP1 hD1 hS1 => ?_)
  rw [e1] at hP1 hD1
  exact kk H1 locs1 la hP1 hD1 hS1 hl
theorem x_iald (C : xC2 p s m args meth c D A H0 nL cc own (xTY cy)) {i n b d : Nat} {q : Int} (hi : i < N) (hds : dsc i = .inr (0, n, 0, b, d)) (hq : 0 ≤ q ∧ q < n) (hn : n < 2147483648) (hd : decode cc pc = .ok (.iaload, 1)) {a : Int} (hv : V i q.toNat = a) (kk : xW p l e R s m args below meth c D A H0 nL cells slots Q (xw N dsc cy ad V J Rr) (pc + 1) lv (vI a :: st)) : xW p l e R s m args below meth c D A H0 nL cells slots Q (xw N dsc cy ad V J Rr) pc lv (vI q :: .ref (ad i) :: st) := by
  intro H locs la hP hD hS hl
  refine va_iald C.1.1 C.1.2.1 C.1.2.2.2.2.2.1 hP i 0 (xw_at hi hds) rfl (xi_in hq hn) hd ?_
  rw [xi_nat ⟨by omega, by omega⟩, hv]
  exact kk H locs la hP hD hS hl
theorem x_bald (C : xC2 p s m args meth c D A H0 nL cc own (xTY cy)) {i n b d : Nat} {q : Int} (hi : i < N) (hds : dsc i = .inr (2, n, 0, b, d)) (hq : 0 ≤ q ∧ q < n) (hn : n < 2147483648) (hd : decode cc pc = .ok (.baload, 1)) {a : Int} (hv : V i q.toNat = a) (kk : xW p l e R s m args below meth c D A H0 nL cells slots Q (xw N dsc cy ad V J Rr) (pc + 1) lv (vI a :: st)) : xW p l e R s m args below meth c D A H0 nL cells slots Q (xw N dsc cy ad V J Rr) pc lv (vI q :: .ref (ad i) :: st) := by
  intro H locs la hP hD hS hl
  refine va_bald C.1.1 C.1.2.1 C.1.2.2.2.2.2.1 hP i 2 (xw_at hi hds) rfl (xi_in hq hn) hd ?_
  rw [xi_nat ⟨by omega, by omega⟩, hv]
  exact kk H locs la hP hD hS hl
theorem x_cald (C : xC2 p s m args meth c D A H0 nL cc own (xTY cy)) {i n b d : Nat} {q : Int} (hi : i < N) (hds : dsc i = .inr (3, n, 0, b, d)) (hq : 0 ≤ q ∧ q < n) (hn : n < 2147483648) (hd : decode cc pc = .ok (.caload, 1)) {a : Int} (hv : V i q.toNat = a) (kk : xW p l e R s m args below meth c D A H0 nL cells slots Q (xw N dsc cy ad V J Rr) (pc + 1) lv (vI a :: st)) : xW p l e R s m args below meth c D A H0 nL cells slots Q (xw N dsc cy ad V J Rr) pc lv (vI q :: .ref (ad i) :: st) := by
  intro H locs la hP hD hS hl
  refine va_cald C.1.1 C.1.2.1 C.1.2.2.2.2.2.1 hP i 3 (xw_at hi hds) rfl (xi_in hq hn) hd ?_
  rw [xi_nat ⟨by omega, by omega⟩, hv]
  exact kk H locs la hP hD hS hl
theorem x_lald (C : xC2 p s m args meth c D A H0 nL cc own (xTY cy)) {i n b d : Nat} {q : Int} (hi : i < N) (hds : dsc i = .inr (1, n, 1, b, d)) (hq : 0 ≤ q ∧ q < n) (hn : n < 2147483648) (hd : decode cc pc = .ok (.laload, 1)) {a : Int} (hv : J i q.toNat = a) (kk : xW p l e R s m args below meth c D A H0 nL cells slots Q (xw N dsc cy ad V J Rr) (pc + 1) lv (vJ a :: st)) : xW p l e R s m args below meth c D A H0 nL cells slots Q (xw N dsc cy ad V J Rr) pc lv (vI q :: .ref (ad i) :: st) := by
  intro H locs la hP hD hS hl
  refine va_lald C.1.1 C.1.2.1 C.1.2.2.2.2.2.1 hP i 1 (xw_at hi hds) rfl (xi_in hq hn) hd ?_
  rw [xi_nat ⟨by omega, by omega⟩, hv]
  exact kk H locs la hP hD hS hl
theorem x_iast (C : xC2 p s m args meth c D A H0 nL cc own (xTY cy)) {i n b d : Nat} {q : Int} (hi : i < N) (hds : dsc i = .inr (0, n, 0, b, d)) (hq : 0 ≤ q ∧ q < n) (hn : n < 2147483648) {a : Int} (hd : decode cc pc = .ok (.iastore, 1)) (kk : xW p l e R s m args below meth c D A H0 nL cells slots Q (xw N dsc cy ad (up2 V i q.toNat a) J Rr) (pc + 1) lv st) : xW p l e R s m args below meth c D A H0 nL cells slots Q (xw N dsc cy ad V J Rr) pc lv (vI a :: vI q :: .ref (ad i) :: st) := by
  intro H locs la hP hD hS hl
  refine va_iast C.1.1 C.1.2.1 C.1.2.2.2.2.2.1 hP hD hS i 0 (xw_at hi hds) rfl (xi_in hq hn) hd (fun H1 locs1 hP1 hD1 hS1 => ?_)
  have e1 : (xw N dsc cy ad V J Rr).set i (ad i, .inl (cy 0, n, .inl (upd (fun k => Int32.ofInt (V i k)) (Int32.ofInt q).toNatClampNeg (Int32.ofInt a)))) = xw N dsc cy ad (up2 V i q.toNat a) J Rr := by
    refine xw_set hi ?_ (fun j hj => up2_c _ _ hj) (fun j hj => rfl) (fun j hj => rfl)
    rw [hds]
    have e : upd (fun k => Int32.ofInt (V i k)) (Int32.ofInt q).toNatClampNeg (Int32.ofInt a) = fun k => Int32.ofInt (up2 V i q.toNat a i k) := by
      funext k
      rw [xi_nat (a := q) ⟨by omega, by omega⟩]
      simp only [upd, up2, up1, if_true]
      split <;> rfl
    rw [e]
    rfl
  rw [e1] at hP1 hD1
  exact kk H1 locs1 la hP1 hD1 hS1 hl
theorem x_bast (C : xC2 p s m args meth c D A H0 nL cc own (xTY cy)) {i n b d : Nat} {q : Int} (hi : i < N) (hds : dsc i = .inr (2, n, 0, b, d)) (hq : 0 ≤ q ∧ q < n) (hn : n < 2147483648) {a : Int} (hnar : vp_nar .byte (Int32.ofInt a) = Int32.ofInt a) (hd : decode cc pc = .ok (.bastore, 1)) (kk : xW p l e R s m args below meth c D A H0 nL cells slots Q (xw N dsc cy ad (up2 V i q.toNat a) J Rr) (pc + 1) lv st) : xW p l e R s m args below meth c D A H0 nL cells slots Q (xw N dsc cy ad V J Rr) pc lv (vI a :: vI q :: .ref (ad i) :: st) := by
  intro H locs la hP hD hS hl
  refine va_bast C.1.1 C.1.2.1 C.1.2.2.2.2.2.1 hP hD hS i 2 (xw_at hi hds) rfl (xi_in hq hn) hd (fun H1 locs1 hP1 hD1 hS1 => ?_)
  have e1 : (xw N dsc cy ad V J Rr).set i (ad i, .inl (cy 2, n, .inl (upd (fun k => Int32.ofInt (V i k)) (Int32.ofInt q).toNatClampNeg (vp_nar .byte (Int32.ofInt a))))) = xw N dsc cy ad (up2 V i q.toNat a) J Rr := by
    refine xw_set hi ?_ (fun j hj => up2_c _ _ hj) (fun j hj => rfl) (fun j hj => rfl)
    rw [hds]
    rw [hnar]
    have e : upd (fun k => Int32.ofInt (V i k)) (Int32.ofInt q).toNatClampNeg (Int32.ofInt a) = fun k => Int32.ofInt (up2 V i q.toNat a i k) := by
      funext k
      rw [xi_nat (a := q) ⟨by omega, by omega⟩]
      simp only [upd, up2, up1, if_true]
      split <;> rfl
    rw [e]
    rfl
  rw [e1] at hP1 hD1
  exact kk H1 locs1 la hP1 hD1 hS1 hl
theorem x_cast (C : xC2 p s m args meth c D A H0 nL cc own (xTY cy)) {i n b d : Nat} {q : Int} (hi : i < N) (hds : dsc i = .inr (3, n, 0, b, d)) (hq : 0 ≤ q ∧ q < n) (hn : n < 2147483648) {a : Int} (hnar : vp_nar .char (Int32.ofInt a) = Int32.ofInt a) (hd : decode cc pc = .ok (.castore, 1)) (kk : xW p l e R s m args below meth c D A H0 nL cells slots Q (xw N dsc cy ad (up2 V i q.toNat a) J Rr) (pc + 1) lv st) : xW p l e R s m args below meth c D A H0 nL cells slots Q (xw N dsc cy ad V J Rr) pc lv (vI a :: vI q :: .ref (ad i) :: st) := by
  intro H locs la hP hD hS hl
  refine va_cast C.1.1 C.1.2.1 C.1.2.2.2.2.2.1 hP hD hS i 3 (xw_at hi hds) rfl (xi_in hq hn) hd (fun H1 locs1 hP1 hD1 hS1 => ?_)
  have e1 : (xw N dsc cy ad V J Rr).set i (ad i, .inl (cy 3, n, .inl (upd (fun k => Int32.ofInt (V i k)) (Int32.ofInt q).toNatClampNeg (vp_nar .char (Int32.ofInt a))))) = xw N dsc cy ad (up2 V i q.toNat a) J Rr := by
    refine xw_set hi ?_ (fun j hj => up2_c _ _ hj) (fun j hj => rfl) (fun j hj => rfl)
    rw [hds]
    rw [hnar]
    have e : upd (fun k => Int32.ofInt (V i k)) (Int32.ofInt q).toNatClampNeg (Int32.ofInt a) = fun k => Int32.ofInt (up2 V i q.toNat a i k) := by
      funext k
      rw [xi_nat (a := q) ⟨by omega, by omega⟩]
      simp only [upd, up2, up1, if_true]
      split <;> rfl
    rw [e]
    rfl
  rw [e1] at hP1 hD1
  exact kk H1 locs1 la hP1 hD1 hS1 hl
theorem x_last (C : xC2 p s m args meth c D A H0 nL cc own (xTY cy)) {i n b d : Nat} {q : Int} (hi : i < N) (hds : dsc i = .inr (1, n, 1, b, d)) (hq : 0 ≤ q ∧ q < n) (hn : n < 2147483648) {a : Int} (hd : decode cc pc = .ok (.lastore, 1)) (kk : xW p l e R s m args below meth c D A H0 nL cells slots Q (xw N dsc cy ad V (up2 J i q.toNat a) Rr) (pc + 1) lv st) : xW p l e R s m args below meth c D A H0 nL cells slots Q (xw N dsc cy ad V J Rr) pc lv (vJ a :: vI q :: .ref (ad i) :: st) := by
  intro H locs la hP hD hS hl
  refine va_last C.1.1 C.1.2.1 C.1.2.2.2.2.2.1 hP hD hS i 1 (xw_at hi hds) rfl (xi_in hq hn) hd (fun H1 locs1 hP1 hD1 hS1 => ?_)
  have e1 : (xw N dsc cy ad V J Rr).set i (ad i, .inl (cy 1, n, .inr (.inl (vp_updL (fun k => Int64.ofInt (J i k)) (Int32.ofInt q).toNatClampNeg (Int64.ofInt a))))) = xw N dsc cy ad V (up2 J i q.toNat a) Rr := by
    refine xw_set hi ?_ (fun j hj => rfl) (fun j hj => up2_c _ _ hj) (fun j hj => rfl)
    rw [hds]
    have e : vp_updL (fun k => Int64.ofInt (J i k)) (Int32.ofInt q).toNatClampNeg (Int64.ofInt a) = fun k => Int64.ofInt (up2 J i q.toNat a i k) := by
      funext k
      rw [xi_nat (a := q) ⟨by omega, by omega⟩]
      simp only [vp_updL, up2, up1, if_true]
      split <;> rfl
    rw [e]
    rfl
  rw [e1] at hP1 hD1
  exact kk H1 locs1 la hP1 hD1 hS1 hl
theorem x_aldS (C : xC2 p s m args meth c D A H0 nL cc own (xTY cy)) {t : Nat} {Cn : String} (ht : (xTY cy)[t]? = some (cy t, .object Cn)) {i n z b d : Nat} {q : Int} (hi : i < N) (hds : dsc i = .inr (t, n, z + 3, b, d)) (hq : 0 ≤ q ∧ q < n) (hn : n < 2147483648) (hd : decode cc pc = .ok (.aaload, 1)) {a : Nat} (hv : b + d * q.toNat = a) (kk : xW p l e R s m args below meth c D A H0 nL cells slots Q (xw N dsc cy ad V J Rr) (pc + 1) lv (.ref (ad a) :: st)) : xW p l e R s m args below meth c D A H0 nL cells slots Q (xw N dsc cy ad V J Rr) pc lv (vI q :: .ref (ad i) :: st) := by
  intro H locs la hP hD hS hl
  refine va_aldq C.1.1 C.1.2.1 C.1.2.2.2.2.2.1 hP i t (xw_at hi hds) ht (xi_in hq hn) hd ?_
  rw [xi_nat ⟨by omega, by omega⟩, hv]
  exact kk H locs la hP hD hS hl
theorem x_aldR (C : xC2 p s m args meth c D A H0 nL cc own (xTY cy)) {t : Nat} {Cn : String} (ht : (xTY cy)[t]? = some (cy t, .object Cn)) {i n b d : Nat} {q : Int} (hi : i < N) (hds : dsc i = .inr (t, n, 2, b, d)) (hq : 0 ≤ q ∧ q < n) (hn : n < 2147483648) (hd : decode cc pc = .ok (.aaload, 1)) {a : Nat} (hv : Rr i q.toNat = a) (kk : xW p l e R s m args below meth c D A H0 nL cells slots Q (xw N dsc cy ad V J Rr) (pc + 1) lv (.ref (ad a) :: st)) : xW p l e R s m args below meth c D A H0 nL cells slots Q (xw N dsc cy ad V J Rr) pc lv (vI q :: .ref (ad i) :: st) := by
  intro H locs la hP hD hS hl
  refine va_aldq C.1.1 C.1.2.1 C.1.2.2.2.2.2.1 hP i t (xw_at hi hds) ht (xi_in hq hn) hd ?_
  rw [xi_nat ⟨by omega, by omega⟩, hv]
  exact kk H locs la hP hD hS hl
theorem x_alenI (C : xC2 p s m args meth c D A H0 nL cc own (xTY cy)) {t : Nat} {ty : FieldType} (ht : (xTY cy)[t]? = some (cy t, ty)) {i n b d : Nat} (hi : i < N) (hds : dsc i = .inr (t, n, 0, b, d)) (hd : decode cc pc = .ok (.arraylength, 1)) (kk : xW p l e R s m args below meth c D A H0 nL cells slots Q (xw N dsc cy ad V J Rr) (pc + 1) lv (vI n :: st)) : xW p l e R s m args below meth c D A H0 nL cells slots Q (xw N dsc cy ad V J Rr) pc lv (.ref (ad i) :: st) := by
  intro H locs la hP hD hS hl
  exact va_alen C.1.1 C.1.2.1 C.1.2.2.2.2.2.1 hP i t (xw_at hi hds) ht (v := Int32.ofInt n) (by rw [Int32.ofInt_eq_ofNat]) hd (kk H locs la hP hD hS hl)
theorem x_alenJ (C : xC2 p s m args meth c D A H0 nL cc own (xTY cy)) {t : Nat} {ty : FieldType} (ht : (xTY cy)[t]? = some (cy t, ty)) {i n b d : Nat} (hi : i < N) (hds : dsc i = .inr (t, n, 1, b, d)) (hd : decode cc pc = .ok (.arraylength, 1)) (kk : xW p l e R s m args below meth c D A H0 nL cells slots Q (xw N dsc cy ad V J Rr) (pc + 1) lv (vI n :: st)) : xW p l e R s m args below meth c D A H0 nL cells slots Q (xw N dsc cy ad V J Rr) pc lv (.ref (ad i) :: st) := by
  intro H locs la hP hD hS hl
  exact va_alen C.1.1 C.1.2.1 C.1.2.2.2.2.2.1 hP i t (xw_at hi hds) ht (v := Int32.ofInt n) (by rw [Int32.ofInt_eq_ofNat]) hd (kk H locs la hP hD hS hl)
end XWR
end
