abbrev vI (a : Int) : Value := .int (Int32.ofInt a)
abbrev vJ (a : Int) : Value := .long (Int64.ofInt a)
abbrev R32 (a : Int) : Prop := -2147483648 ≤ a ∧ a ≤ 2147483647
abbrev R64 (a : Int) : Prop := -9223372036854775808 ≤ a ∧ a ≤ 9223372036854775807
theorem xi_toInt {a : Int} (h : R32 a) : (Int32.ofInt a).toInt = a := Int32.toInt_ofInt_of_le (by omega) (by omega)
theorem xj_toInt {a : Int} (h : R64 a) : (Int64.ofInt a).toInt = a := Int64.toInt_ofInt_of_le (by omega) (by omega)
theorem xi_lt {a b : Int} (ha : R32 a) (hb : R32 b) : (Int32.ofInt a < Int32.ofInt b) ↔ a < b := by rw [Int32.lt_iff_toInt_lt, xi_toInt ha, xi_toInt hb]
theorem xi_le {a b : Int} (ha : R32 a) (hb : R32 b) : (Int32.ofInt a ≤ Int32.ofInt b) ↔ a ≤ b := by rw [Int32.le_iff_toInt_le, xi_toInt ha, xi_toInt hb]
theorem xi_eq {a b : Int} (ha : R32 a) (hb : R32 b) : (Int32.ofInt a = Int32.ofInt b) ↔ a = b := by rw [← Int32.toInt_inj, xi_toInt ha, xi_toInt hb]
theorem xj_lt {a b : Int} (ha : R64 a) (hb : R64 b) : (Int64.ofInt a < Int64.ofInt b) ↔ a < b := by rw [Int64.lt_iff_toInt_lt, xj_toInt ha, xj_toInt hb]
theorem xj_eq {a b : Int} (ha : R64 a) (hb : R64 b) : (Int64.ofInt a = Int64.ofInt b) ↔ a = b := by rw [← Int64.toInt_inj, xj_toInt ha, xj_toInt hb]
theorem xi_r (x : Int32) : R32 x.toInt := ⟨by have := x.le_toInt; omega, by have := x.toInt_lt; omega⟩
theorem xj_r (x : Int64) : R64 x.toInt := ⟨by have := x.le_toInt; omega, by have := x.toInt_lt; omega⟩
theorem xi_nat {a : Int} (h : R32 a) : (Int32.ofInt a).toNatClampNeg = a.toNat := Int32.toNatClampNeg_ofInt_of_le (by omega) (by omega)
theorem xi_of (x : Int32) : Int32.ofInt x.toInt = x := Int32.ofInt_toInt x
theorem xj_of (x : Int64) : Int64.ofInt x.toInt = x := Int64.ofInt_toInt x
theorem xi_in {a : Int} {n : Nat} (h : 0 ≤ a ∧ a < n) (hn : n < 2147483648) : vp_in (Int32.ofInt a) n := by
  have r : R32 a := ⟨by omega, by omega⟩
  exact vp_in_iff.mpr (by rw [xi_toInt r]; exact h)
def iAnd (a b : Int) : Int := (Int32.ofInt a &&& Int32.ofInt b).toInt
def iOr (a b : Int) : Int := (Int32.ofInt a ||| Int32.ofInt b).toInt
def iXor (a b : Int) : Int := (Int32.ofInt a ^^^ Int32.ofInt b).toInt
def iShl (a b : Int) : Int := (Int32.ofInt a <<< (Int32.ofInt b &&& 31)).toInt
def iShr (a b : Int) : Int := (Int32.ofInt a >>> (Int32.ofInt b &&& 31)).toInt
def iDiv (a b : Int) : Int := (Int32.ofInt a / Int32.ofInt b).toInt
def iRem (a b : Int) : Int := (Int32.ofInt a - Int32.ofInt a / Int32.ofInt b * Int32.ofInt b).toInt
section XL
variable {p : Program} {l : Launch} {e : Env} {R : Room} {s : State} {m : MethodId} {args : Array Value} {below : List Frame} {meth : Method} {c : Code} {cells slots : Nat} {Q : State → Prop}
variable {D : va_G} {A : Nat → Prop} {H0 : Heap} {nL : Nat} {ws : va_W} {pc : Nat} {lv : List (Nat × Value)} {st : List Value} {cc : ByteArray} {Ts : List Cond} {own : String} {TY : List (ClassId × FieldType)}
def xW (p : Program) (l : Launch) (e : Env) (R : Room) (s : State) (m : MethodId) (args : Array Value) (below : List Frame) (meth : Method) (c : Code) (D : va_G) (A : Nat → Prop) (H0 : Heap) (nL : Nat) (cells slots : Nat) (Q : State → Prop) (ws : va_W) (pc : Nat) (lv : List (Nat × Value)) (st : List Value) : Prop :=
  ∀ (H : Heap) (locs : List Loc) (la : Array Slot), va_P D vwCl ws H → va_D A ws → va_S A H0 H locs → lv_has la nL lv → W p l e R s m args below meth c H locs cells slots Q (F0 m pc la st)
abbrev xC (p : Program) (s : State) (m : MethodId) (args : Array Value) (meth : Method) (c : Code) (D : va_G) (A : Nat → Prop) (H0 : Heap) (nL : Nat) (cc : ByteArray) (Ts : List Cond) (own : String) (TY : List (ClassId × FieldType)) : Prop :=
  p.tables.exec = Jvm.exec ∧ c.code = cc ∧ c.maxLocals = nL ∧ s.vm.findClass own = some m.cls ∧ (∀ w ∈ Ts, w.before args s = true) ∧ va_K D vwCl TY s ∧ (∀ q : Nat, H0.size ≤ q → A q) ∧ meth.locks = false
theorem x_iconst (C : xC p s m args meth c D A H0 nL cc Ts own TY) {n : Int} (hd : decode cc pc = .ok (.iconst n, 1)) (k : xW p l e R s m args below meth c D A H0 nL cells slots Q ws (pc + 1) lv (vI n :: st)) : xW p l e R s m args below meth c D A H0 nL cells slots Q ws pc lv st :=
  fun H locs la hP hD hS hl => lv_iconst C.1 C.2.1 hd rfl (k H locs la hP hD hS hl)
theorem x_bipush (C : xC p s m args meth c D A H0 nL cc Ts own TY) {n : Int} (hd : decode cc pc = .ok (.bipush n, 2)) (k : xW p l e R s m args below meth c D A H0 nL cells slots Q ws (pc + 2) lv (vI n :: st)) (hv : (Int8.ofInt n).toInt32 = Int32.ofInt n := by decide) : xW p l e R s m args below meth c D A H0 nL cells slots Q ws pc lv st :=
  fun H locs la hP hD hS hl => lv_bipush C.1 C.2.1 hd hv (k H locs la hP hD hS hl)
theorem x_sipush (C : xC p s m args meth c D A H0 nL cc Ts own TY) {n : Int} (hd : decode cc pc = .ok (.sipush n, 3)) (k : xW p l e R s m args below meth c D A H0 nL cells slots Q ws (pc + 3) lv (vI n :: st)) (hv : (Int16.ofInt n).toInt32 = Int32.ofInt n := by decide) : xW p l e R s m args below meth c D A H0 nL cells slots Q ws pc lv st :=
  fun H locs la hP hD hS hl => lv_sipush C.1 C.2.1 hd hv (k H locs la hP hD hS hl)
theorem x_ldc (C : xC p s m args meth c D A H0 nL cc Ts own TY) {index : Nat} {n : Int} (hw : (Jvm.Cond.constant own index (Int32.ofInt n)) ∈ Ts) (hd : decode cc pc = .ok (.ldc index, 2)) (k : xW p l e R s m args below meth c D A H0 nL cells slots Q ws (pc + 2) lv (vI n :: st)) : xW p l e R s m args below meth c D A H0 nL cells slots Q ws pc lv st :=
  fun H locs la hP hD hS hl => lv_ldc C.1 C.2.1 C.2.2.2.1 (C.2.2.2.2.1 _ hw) hd (k H locs la hP hD hS hl)
theorem x_ldc2 (C : xC p s m args meth c D A H0 nL cc Ts own TY) {index : Nat} {n : Int} (hw : (Jvm.Cond.constantLong own index (Int64.ofInt n)) ∈ Ts) (hd : decode cc pc = .ok (.ldc2_w index, 3)) (k : xW p l e R s m args below meth c D A H0 nL cells slots Q ws (pc + 3) lv (vJ n :: st)) : xW p l e R s m args below meth c D A H0 nL cells slots Q ws pc lv st :=
  fun H locs la hP hD hS hl => lv_ldc2 C.1 C.2.1 C.2.2.2.1 (C.2.2.2.2.1 _ hw) hd (k H locs la hP hD hS hl)
theorem x_lconst0 (C : xC p s m args meth c D A H0 nL cc Ts own TY) (hd : decode cc pc = .ok (.lconst 0, 1)) (k : xW p l e R s m args below meth c D A H0 nL cells slots Q ws (pc + 1) lv (vJ 0 :: st)) : xW p l e R s m args below meth c D A H0 nL cells slots Q ws pc lv st :=
  fun H locs la hP hD hS hl => lv_lconst C.1 C.2.1 hd (v := Int64.ofInt 0) (by decide) (k H locs la hP hD hS hl)
theorem x_lconst1 (C : xC p s m args meth c D A H0 nL cc Ts own TY) (hd : decode cc pc = .ok (.lconst 1, 1)) (k : xW p l e R s m args below meth c D A H0 nL cells slots Q ws (pc + 1) lv (vJ 1 :: st)) : xW p l e R s m args below meth c D A H0 nL cells slots Q ws pc lv st :=
  fun H locs la hP hD hS hl => lv_lconst C.1 C.2.1 hd (v := Int64.ofInt 1) (by decide) (k H locs la hP hD hS hl)
theorem x_iload (C : xC p s m args meth c D A H0 nL cc Ts own TY) {i : Nat} {a : Int} (hd : decode cc pc = .ok (.iload i, 2)) (q : Nat) (hq : lv[q]? = some (i, vI a)) (k : xW p l e R s m args below meth c D A H0 nL cells slots Q ws (pc + 2) lv (vI a :: st)) : xW p l e R s m args below meth c D A H0 nL cells slots Q ws pc lv st :=
  fun H locs la hP hD hS hl => lv_iload C.1 C.2.1 hd (lv_at hl q hq) (k H locs la hP hD hS hl)
theorem x_iload_n (C : xC p s m args meth c D A H0 nL cc Ts own TY) {i : Fin 4} {a : Int} (hd : decode cc pc = .ok (.iload_n i, 1)) (q : Nat) (hq : lv[q]? = some ((i : Nat), vI a)) (k : xW p l e R s m args below meth c D A H0 nL cells slots Q ws (pc + 1) lv (vI a :: st)) : xW p l e R s m args below meth c D A H0 nL cells slots Q ws pc lv st :=
  fun H locs la hP hD hS hl => lv_iload_n C.1 C.2.1 hd rfl (lv_at hl q hq) (k H locs la hP hD hS hl)
theorem x_lload (C : xC p s m args meth c D A H0 nL cc Ts own TY) {i : Nat} {a : Int} (hd : decode cc pc = .ok (.lload i, 2)) (q : Nat) (hq : lv[q]? = some (i, vJ a)) (k : xW p l e R s m args below meth c D A H0 nL cells slots Q ws (pc + 2) lv (vJ a :: st)) : xW p l e R s m args below meth c D A H0 nL cells slots Q ws pc lv st :=
  fun H locs la hP hD hS hl => lv_lload C.1 C.2.1 hd (lv_at hl q hq) (k H locs la hP hD hS hl)
theorem x_lload_n (C : xC p s m args meth c D A H0 nL cc Ts own TY) {i : Fin 4} {a : Int} (hd : decode cc pc = .ok (.lload_n i, 1)) (q : Nat) (hq : lv[q]? = some ((i : Nat), vJ a)) (k : xW p l e R s m args below meth c D A H0 nL cells slots Q ws (pc + 1) lv (vJ a :: st)) : xW p l e R s m args below meth c D A H0 nL cells slots Q ws pc lv st :=
  fun H locs la hP hD hS hl => lv_lload_n C.1 C.2.1 hd rfl (lv_at hl q hq) (k H locs la hP hD hS hl)
theorem x_aload (C : xC p s m args meth c D A H0 nL cc Ts own TY) {i : Nat} {a : Nat} (hd : decode cc pc = .ok (.aload i, 2)) (q : Nat) (hq : lv[q]? = some (i, .ref a)) (k : xW p l e R s m args below meth c D A H0 nL cells slots Q ws (pc + 2) lv (.ref a :: st)) : xW p l e R s m args below meth c D A H0 nL cells slots Q ws pc lv st :=
  fun H locs la hP hD hS hl => lv_aload C.1 C.2.1 hd (lv_at hl q hq) (k H locs la hP hD hS hl)
theorem x_aload_n (C : xC p s m args meth c D A H0 nL cc Ts own TY) {i : Fin 4} {a : Nat} (hd : decode cc pc = .ok (.aload_n i, 1)) (q : Nat) (hq : lv[q]? = some ((i : Nat), .ref a)) (k : xW p l e R s m args below meth c D A H0 nL cells slots Q ws (pc + 1) lv (.ref a :: st)) : xW p l e R s m args below meth c D A H0 nL cells slots Q ws pc lv st :=
  fun H locs la hP hD hS hl => lv_aload_n C.1 C.2.1 hd rfl (lv_at hl q hq) (k H locs la hP hD hS hl)
theorem x_istore (C : xC p s m args meth c D A H0 nL cc Ts own TY) {i : Nat} {a : Int} (lv' : List (Nat × Value)) (hd : decode cc pc = .ok (.istore i, 2)) (hn : i < nL) (hq : (i, vI a) :: lv.filter (fun q => !(q.1 == i) && !(q.1 + 1 == i && q.2.category == 2)) = lv') (k : xW p l e R s m args below meth c D A H0 nL cells slots Q ws (pc + 2) lv' st) : xW p l e R s m args below meth c D A H0 nL cells slots Q ws pc lv (vI a :: st) :=
  fun H locs la hP hD hS hl => lv_istore C.1 C.2.1 hd hl hn hq (fun ls hl => k H locs ls hP hD hS hl)
theorem x_istore_n (C : xC p s m args meth c D A H0 nL cc Ts own TY) {i : Fin 4} {a : Int} (lv' : List (Nat × Value)) (hd : decode cc pc = .ok (.istore_n i, 1)) (hn : (i : Nat) < nL) (hq : ((i : Nat), vI a) :: lv.filter (fun q => !(q.1 == (i : Nat)) && !(q.1 + 1 == (i : Nat) && q.2.category == 2)) = lv') (k : xW p l e R s m args below meth c D A H0 nL cells slots Q ws (pc + 1) lv' st) : xW p l e R s m args below meth c D A H0 nL cells slots Q ws pc lv (vI a :: st) :=
  fun H locs la hP hD hS hl => lv_istore_n C.1 C.2.1 hd rfl hl hn hq (fun ls hl => k H locs ls hP hD hS hl)
theorem x_astore (C : xC p s m args meth c D A H0 nL cc Ts own TY) {i : Nat} {a : Nat} (lv' : List (Nat × Value)) (hd : decode cc pc = .ok (.astore i, 2)) (hn : i < nL) (hq : (i, Value.ref a) :: lv.filter (fun q => !(q.1 == i) && !(q.1 + 1 == i && q.2.category == 2)) = lv') (k : xW p l e R s m args below meth c D A H0 nL cells slots Q ws (pc + 2) lv' st) : xW p l e R s m args below meth c D A H0 nL cells slots Q ws pc lv (.ref a :: st) :=
  fun H locs la hP hD hS hl => lv_astore C.1 C.2.1 hd hl hn hq (fun ls hl => k H locs ls hP hD hS hl)
theorem x_astore_n (C : xC p s m args meth c D A H0 nL cc Ts own TY) {i : Fin 4} {a : Nat} (lv' : List (Nat × Value)) (hd : decode cc pc = .ok (.astore_n i, 1)) (hn : (i : Nat) < nL) (hq : ((i : Nat), Value.ref a) :: lv.filter (fun q => !(q.1 == (i : Nat)) && !(q.1 + 1 == (i : Nat) && q.2.category == 2)) = lv') (k : xW p l e R s m args below meth c D A H0 nL cells slots Q ws (pc + 1) lv' st) : xW p l e R s m args below meth c D A H0 nL cells slots Q ws pc lv (.ref a :: st) :=
  fun H locs la hP hD hS hl => lv_astore_n C.1 C.2.1 hd rfl hl hn hq (fun ls hl => k H locs ls hP hD hS hl)
theorem x_lstore (C : xC p s m args meth c D A H0 nL cc Ts own TY) {i : Nat} {a : Int} (lv' : List (Nat × Value)) (hd : decode cc pc = .ok (.lstore i, 2)) (hn : i + 1 < nL) (hq : (i, vJ a) :: lv.filter (fun q => !(q.1 == i) && (!(q.1 == i + 1) && !(q.1 + 1 == i && q.2.category == 2))) = lv') (k : xW p l e R s m args below meth c D A H0 nL cells slots Q ws (pc + 2) lv' st) : xW p l e R s m args below meth c D A H0 nL cells slots Q ws pc lv (vJ a :: st) :=
  fun H locs la hP hD hS hl => lv_lstore C.1 C.2.1 hd hl hn hq (fun ls hl => k H locs ls hP hD hS hl)
theorem x_lstore_n (C : xC p s m args meth c D A H0 nL cc Ts own TY) {i : Fin 4} {a : Int} (lv' : List (Nat × Value)) (hd : decode cc pc = .ok (.lstore_n i, 1)) (hn : (i : Nat) + 1 < nL) (hq : ((i : Nat), vJ a) :: lv.filter (fun q => !(q.1 == (i : Nat)) && (!(q.1 == (i : Nat) + 1) && !(q.1 + 1 == (i : Nat) && q.2.category == 2))) = lv') (k : xW p l e R s m args below meth c D A H0 nL cells slots Q ws (pc + 1) lv' st) : xW p l e R s m args below meth c D A H0 nL cells slots Q ws pc lv (vJ a :: st) :=
  fun H locs la hP hD hS hl => lv_lstore_n C.1 C.2.1 hd rfl hl hn hq (fun ls hl => k H locs ls hP hD hS hl)
theorem x_iinc (C : xC p s m args meth c D A H0 nL cc Ts own TY) {i : Nat} {n a v : Int} (lv' : List (Nat × Value)) (hv : a + n = v) (hd : decode cc pc = .ok (.iinc i n, 3)) (q : Nat) (hk : lv[q]? = some (i, vI a)) (hn : i < nL) (hq : (i, vI v) :: lv.filter (fun q => !(q.1 == i) && !(q.1 + 1 == i && q.2.category == 2)) = lv') (k : xW p l e R s m args below meth c D A H0 nL cells slots Q ws (pc + 3) lv' st) : xW p l e R s m args below meth c D A H0 nL cells slots Q ws pc lv st :=
  fun H locs la hP hD hS hl => lv_iinc C.1 C.2.1 hd hl hk (by rw [← hv]; exact (Int32.ofInt_add a n).symm) hn hq (fun ls hl => k H locs ls hP hD hS hl)
theorem x_iadd (C : xC p s m args meth c D A H0 nL cc Ts own TY) {a b v : Int} (hv : a + b = v) (hd : decode cc pc = .ok (.iadd, 1)) (k : xW p l e R s m args below meth c D A H0 nL cells slots Q ws (pc + 1) lv (vI v :: st)) : xW p l e R s m args below meth c D A H0 nL cells slots Q ws pc lv (vI b :: vI a :: st) :=
  fun H locs la hP hD hS hl => lv_iadd C.1 C.2.1 hd (by rw [← Int32.ofInt_add, hv]; exact k H locs la hP hD hS hl)
theorem x_isub (C : xC p s m args meth c D A H0 nL cc Ts own TY) {a b v : Int} (hv : a - b = v) (hd : decode cc pc = .ok (.isub, 1)) (k : xW p l e R s m args below meth c D A H0 nL cells slots Q ws (pc + 1) lv (vI v :: st)) : xW p l e R s m args below meth c D A H0 nL cells slots Q ws pc lv (vI b :: vI a :: st) :=
  fun H locs la hP hD hS hl => lv_isub C.1 C.2.1 hd (by rw [← Int32.ofInt_sub, hv]; exact k H locs la hP hD hS hl)
theorem x_imul (C : xC p s m args meth c D A H0 nL cc Ts own TY) {a b v : Int} (hv : a * b = v) (hd : decode cc pc = .ok (.imul, 1)) (k : xW p l e R s m args below meth c D A H0 nL cells slots Q ws (pc + 1) lv (vI v :: st)) : xW p l e R s m args below meth c D A H0 nL cells slots Q ws pc lv (vI b :: vI a :: st) :=
  fun H locs la hP hD hS hl => lv_imul C.1 C.2.1 hd (by rw [← Int32.ofInt_mul, hv]; exact k H locs la hP hD hS hl)
theorem x_iand (C : xC p s m args meth c D A H0 nL cc Ts own TY) {a b v : Int} (hv : iAnd a b = v) (hd : decode cc pc = .ok (.iand, 1)) (k : xW p l e R s m args below meth c D A H0 nL cells slots Q ws (pc + 1) lv (vI v :: st)) : xW p l e R s m args below meth c D A H0 nL cells slots Q ws pc lv (vI b :: vI a :: st) :=
  fun H locs la hP hD hS hl => lv_iand C.1 C.2.1 hd (by have k := k H locs la hP hD hS hl; simp only [vI, ← hv, iAnd, xi_of] at k; exact k)
theorem x_ior (C : xC p s m args meth c D A H0 nL cc Ts own TY) {a b v : Int} (hv : iOr a b = v) (hd : decode cc pc = .ok (.ior, 1)) (k : xW p l e R s m args below meth c D A H0 nL cells slots Q ws (pc + 1) lv (vI v :: st)) : xW p l e R s m args below meth c D A H0 nL cells slots Q ws pc lv (vI b :: vI a :: st) :=
  fun H locs la hP hD hS hl => lv_ior C.1 C.2.1 hd (by have k := k H locs la hP hD hS hl; simp only [vI, ← hv, iOr, xi_of] at k; exact k)
theorem x_ixor (C : xC p s m args meth c D A H0 nL cc Ts own TY) {a b v : Int} (hv : iXor a b = v) (hd : decode cc pc = .ok (.ixor, 1)) (k : xW p l e R s m args below meth c D A H0 nL cells slots Q ws (pc + 1) lv (vI v :: st)) : xW p l e R s m args below meth c D A H0 nL cells slots Q ws pc lv (vI b :: vI a :: st) :=
  fun H locs la hP hD hS hl => lv_ixor C.1 C.2.1 hd (by have k := k H locs la hP hD hS hl; simp only [vI, ← hv, iXor, xi_of] at k; exact k)
theorem x_ishl (C : xC p s m args meth c D A H0 nL cc Ts own TY) {a b v : Int} (hv : iShl a b = v) (hd : decode cc pc = .ok (.ishl, 1)) (k : xW p l e R s m args below meth c D A H0 nL cells slots Q ws (pc + 1) lv (vI v :: st)) : xW p l e R s m args below meth c D A H0 nL cells slots Q ws pc lv (vI b :: vI a :: st) :=
  fun H locs la hP hD hS hl => lv_ishl C.1 C.2.1 hd (by have k := k H locs la hP hD hS hl; simp only [vI, ← hv, iShl, xi_of] at k; exact k)
theorem x_ishr (C : xC p s m args meth c D A H0 nL cc Ts own TY) {a b v : Int} (hv : iShr a b = v) (hd : decode cc pc = .ok (.ishr, 1)) (k : xW p l e R s m args below meth c D A H0 nL cells slots Q ws (pc + 1) lv (vI v :: st)) : xW p l e R s m args below meth c D A H0 nL cells slots Q ws pc lv (vI b :: vI a :: st) :=
  fun H locs la hP hD hS hl => lv_ishr C.1 C.2.1 hd (by have k := k H locs la hP hD hS hl; simp only [vI, ← hv, iShr, xi_of] at k; exact k)
theorem x_idiv (C : xC p s m args meth c D A H0 nL cc Ts own TY) {a b v : Int} (hv : iDiv a b = v) (hd : decode cc pc = .ok (.idiv, 1)) (hb : R32 b) (hne : b ≠ 0) (k : xW p l e R s m args below meth c D A H0 nL cells slots Q ws (pc + 1) lv (vI v :: st)) : xW p l e R s m args below meth c D A H0 nL cells slots Q ws pc lv (vI b :: vI a :: st) :=
  fun H locs la hP hD hS hl => lv_idiv C.1 C.2.1 hd (fun h => hne ((xi_eq hb (by decide)).mp h)) (by have k := k H locs la hP hD hS hl; simp only [vI, ← hv, iDiv, xi_of] at k; exact k)
theorem x_irem (C : xC p s m args meth c D A H0 nL cc Ts own TY) {a b v : Int} (hv : iRem a b = v) (hd : decode cc pc = .ok (.irem, 1)) (hb : R32 b) (hne : b ≠ 0) (k : xW p l e R s m args below meth c D A H0 nL cells slots Q ws (pc + 1) lv (vI v :: st)) : xW p l e R s m args below meth c D A H0 nL cells slots Q ws pc lv (vI b :: vI a :: st) :=
  fun H locs la hP hD hS hl => lv_irem C.1 C.2.1 hd (fun h => hne ((xi_eq hb (by decide)).mp h)) (by have k := k H locs la hP hD hS hl; simp only [vI, ← hv, iRem, xi_of] at k; exact k)
theorem x_i2l (C : xC p s m args meth c D A H0 nL cc Ts own TY) {a : Int} (hd : decode cc pc = .ok (.i2l, 1)) (ha : R32 a) (k : xW p l e R s m args below meth c D A H0 nL cells slots Q ws (pc + 1) lv (vJ a :: st)) : xW p l e R s m args below meth c D A H0 nL cells slots Q ws pc lv (vI a :: st) :=
  fun H locs la hP hD hS hl => lv_i2l C.1 C.2.1 hd (v := Int64.ofInt a) (by rw [← Int64.toInt_inj, Int32.toInt_toInt64, xi_toInt ha, xj_toInt ⟨by omega, by omega⟩]) (k H locs la hP hD hS hl)
theorem x_ladd (C : xC p s m args meth c D A H0 nL cc Ts own TY) {a b v : Int} (hv : a + b = v) (hd : decode cc pc = .ok (.ladd, 1)) (k : xW p l e R s m args below meth c D A H0 nL cells slots Q ws (pc + 1) lv (vJ v :: st)) : xW p l e R s m args below meth c D A H0 nL cells slots Q ws pc lv (vJ b :: vJ a :: st) :=
  fun H locs la hP hD hS hl => lv_ladd C.1 C.2.1 hd (by rw [← Int64.ofInt_add, hv]; exact k H locs la hP hD hS hl)
theorem x_lsub (C : xC p s m args meth c D A H0 nL cc Ts own TY) {a b v : Int} (hv : a - b = v) (hd : decode cc pc = .ok (.lsub, 1)) (k : xW p l e R s m args below meth c D A H0 nL cells slots Q ws (pc + 1) lv (vJ v :: st)) : xW p l e R s m args below meth c D A H0 nL cells slots Q ws pc lv (vJ b :: vJ a :: st) :=
  fun H locs la hP hD hS hl => lv_lsub C.1 C.2.1 hd (by rw [← Int64.ofInt_sub, hv]; exact k H locs la hP hD hS hl)
theorem x_lmul (C : xC p s m args meth c D A H0 nL cc Ts own TY) {a b v : Int} (hv : a * b = v) (hd : decode cc pc = .ok (.lmul, 1)) (k : xW p l e R s m args below meth c D A H0 nL cells slots Q ws (pc + 1) lv (vJ v :: st)) : xW p l e R s m args below meth c D A H0 nL cells slots Q ws pc lv (vJ b :: vJ a :: st) :=
  fun H locs la hP hD hS hl => lv_lmul C.1 C.2.1 hd (by rw [← Int64.ofInt_mul, hv]; exact k H locs la hP hD hS hl)
theorem x_dup (C : xC p s m args meth c D A H0 nL cc Ts own TY) {v : Value} (hd : decode cc pc = .ok (.dup, 1)) (hv : v.category = 1) (k : xW p l e R s m args below meth c D A H0 nL cells slots Q ws (pc + 1) lv (v :: v :: st)) : xW p l e R s m args below meth c D A H0 nL cells slots Q ws pc lv (v :: st) :=
  fun H locs la hP hD hS hl => lv_dup C.1 C.2.1 hd hv (k H locs la hP hD hS hl)
theorem x_pop (C : xC p s m args meth c D A H0 nL cc Ts own TY) {v : Value} (hd : decode cc pc = .ok (.pop, 1)) (hv : v.category = 1) (k : xW p l e R s m args below meth c D A H0 nL cells slots Q ws (pc + 1) lv (st)) : xW p l e R s m args below meth c D A H0 nL cells slots Q ws pc lv (v :: st) :=
  fun H locs la hP hD hS hl => lv_pop C.1 C.2.1 hd hv (k H locs la hP hD hS hl)
theorem x_goto (C : xC p s m args meth c D A H0 nL cc Ts own TY) {off : Int} {tgt : Nat} (hd : decode cc pc = .ok (.goto off, 3)) (ht : (pc : Int) + off = (tgt : Int)) (k : xW p l e R s m args below meth c D A H0 nL cells slots Q ws tgt lv st) : xW p l e R s m args below meth c D A H0 nL cells slots Q ws pc lv st :=
  fun H locs la hP hD hS hl => lv_goto C.1 C.2.1 hd ht (k H locs la hP hD hS hl)
theorem x_icmp_eq (C : xC p s m args meth c D A H0 nL cc Ts own TY) {a b : Int} {off : Int} {tgt : Nat} (hd : decode cc pc = .ok (.if_icmp .eq off, 3)) (ht : (pc : Int) + off = (tgt : Int)) (ha : R32 a) (hb : R32 b) (kt : a = b → xW p l e R s m args below meth c D A H0 nL cells slots Q ws tgt lv st) (kf : ¬ (a = b) → xW p l e R s m args below meth c D A H0 nL cells slots Q ws (pc + 3) lv st) : xW p l e R s m args below meth c D A H0 nL cells slots Q ws pc lv (vI b :: vI a :: st) :=
  fun H locs la hP hD hS hl => lv_icmp_eq C.1 C.2.1 hd ht (fun h => kt ((xi_eq ha hb).mp h) H locs la hP hD hS hl) (fun h => kf (fun h2 => h ((xi_eq ha hb).mpr h2)) H locs la hP hD hS hl)
theorem x_icmp_eq_t (C : xC p s m args meth c D A H0 nL cc Ts own TY) {a b : Int} {off : Int} {tgt : Nat} (hd : decode cc pc = .ok (.if_icmp .eq off, 3)) (ht : (pc : Int) + off = (tgt : Int)) (ha : R32 a) (hb : R32 b) (h : a = b) (k : xW p l e R s m args below meth c D A H0 nL cells slots Q ws tgt lv st) : xW p l e R s m args below meth c D A H0 nL cells slots Q ws pc lv (vI b :: vI a :: st) :=
  x_icmp_eq C hd ht ha hb (fun _ => k) (fun h2 => absurd h h2)
theorem x_icmp_eq_f (C : xC p s m args meth c D A H0 nL cc Ts own TY) {a b : Int} {off : Int} {tgt : Nat} (hd : decode cc pc = .ok (.if_icmp .eq off, 3)) (ht : (pc : Int) + off = (tgt : Int)) (ha : R32 a) (hb : R32 b) (h : ¬ (a = b)) (k : xW p l e R s m args below meth c D A H0 nL cells slots Q ws (pc + 3) lv st) : xW p l e R s m args below meth c D A H0 nL cells slots Q ws pc lv (vI b :: vI a :: st) :=
  x_icmp_eq C hd ht ha hb (fun h2 => absurd h2 h) (fun _ => k)
theorem x_if_eq (C : xC p s m args meth c D A H0 nL cc Ts own TY) {a : Int} {off : Int} {tgt : Nat} (hd : decode cc pc = .ok (.ifCond .eq off, 3)) (ht : (pc : Int) + off = (tgt : Int)) (ha : R32 a) (kt : a = 0 → xW p l e R s m args below meth c D A H0 nL cells slots Q ws tgt lv st) (kf : ¬ (a = 0) → xW p l e R s m args below meth c D A H0 nL cells slots Q ws (pc + 3) lv st) : xW p l e R s m args below meth c D A H0 nL cells slots Q ws pc lv (vI a :: st) :=
  fun H locs la hP hD hS hl => lv_if_eq C.1 C.2.1 hd ht (fun h => kt ((xi_eq ha (by decide)).mp h) H locs la hP hD hS hl) (fun h => kf (fun h2 => h ((xi_eq ha (by decide)).mpr h2)) H locs la hP hD hS hl)
theorem x_if_eq_t (C : xC p s m args meth c D A H0 nL cc Ts own TY) {a : Int} {off : Int} {tgt : Nat} (hd : decode cc pc = .ok (.ifCond .eq off, 3)) (ht : (pc : Int) + off = (tgt : Int)) (ha : R32 a) (h : a = 0) (k : xW p l e R s m args below meth c D A H0 nL cells slots Q ws tgt lv st) : xW p l e R s m args below meth c D A H0 nL cells slots Q ws pc lv (vI a :: st) :=
  x_if_eq C hd ht ha (fun _ => k) (fun h2 => absurd h h2)
theorem x_if_eq_f (C : xC p s m args meth c D A H0 nL cc Ts own TY) {a : Int} {off : Int} {tgt : Nat} (hd : decode cc pc = .ok (.ifCond .eq off, 3)) (ht : (pc : Int) + off = (tgt : Int)) (ha : R32 a) (h : ¬ (a = 0)) (k : xW p l e R s m args below meth c D A H0 nL cells slots Q ws (pc + 3) lv st) : xW p l e R s m args below meth c D A H0 nL cells slots Q ws pc lv (vI a :: st) :=
  x_if_eq C hd ht ha (fun h2 => absurd h2 h) (fun _ => k)
theorem x_icmp_ne (C : xC p s m args meth c D A H0 nL cc Ts own TY) {a b : Int} {off : Int} {tgt : Nat} (hd : decode cc pc = .ok (.if_icmp .ne off, 3)) (ht : (pc : Int) + off = (tgt : Int)) (ha : R32 a) (hb : R32 b) (kt : ¬ a = b → xW p l e R s m args below meth c D A H0 nL cells slots Q ws tgt lv st) (kf : a = b → xW p l e R s m args below meth c D A H0 nL cells slots Q ws (pc + 3) lv st) : xW p l e R s m args below meth c D A H0 nL cells slots Q ws pc lv (vI b :: vI a :: st) :=
  fun H locs la hP hD hS hl => lv_icmp_ne C.1 C.2.1 hd ht (fun h => kt (fun h2 => h ((xi_eq ha hb).mpr h2)) H locs la hP hD hS hl) (fun h => kf ((xi_eq ha hb).mp h) H locs la hP hD hS hl)
theorem x_icmp_ne_t (C : xC p s m args meth c D A H0 nL cc Ts own TY) {a b : Int} {off : Int} {tgt : Nat} (hd : decode cc pc = .ok (.if_icmp .ne off, 3)) (ht : (pc : Int) + off = (tgt : Int)) (ha : R32 a) (hb : R32 b) (h : ¬ a = b) (k : xW p l e R s m args below meth c D A H0 nL cells slots Q ws tgt lv st) : xW p l e R s m args below meth c D A H0 nL cells slots Q ws pc lv (vI b :: vI a :: st) :=
  x_icmp_ne C hd ht ha hb (fun _ => k) (fun h2 => absurd h2 h)
theorem x_icmp_ne_f (C : xC p s m args meth c D A H0 nL cc Ts own TY) {a b : Int} {off : Int} {tgt : Nat} (hd : decode cc pc = .ok (.if_icmp .ne off, 3)) (ht : (pc : Int) + off = (tgt : Int)) (ha : R32 a) (hb : R32 b) (h : a = b) (k : xW p l e R s m args below meth c D A H0 nL cells slots Q ws (pc + 3) lv st) : xW p l e R s m args below meth c D A H0 nL cells slots Q ws pc lv (vI b :: vI a :: st) :=
  x_icmp_ne C hd ht ha hb (fun h2 => absurd h h2) (fun _ => k)
theorem x_if_ne (C : xC p s m args meth c D A H0 nL cc Ts own TY) {a : Int} {off : Int} {tgt : Nat} (hd : decode cc pc = .ok (.ifCond .ne off, 3)) (ht : (pc : Int) + off = (tgt : Int)) (ha : R32 a) (kt : ¬ a = 0 → xW p l e R s m args below meth c D A H0 nL cells slots Q ws tgt lv st) (kf : a = 0 → xW p l e R s m args below meth c D A H0 nL cells slots Q ws (pc + 3) lv st) : xW p l e R s m args below meth c D A H0 nL cells slots Q ws pc lv (vI a :: st) :=
  fun H locs la hP hD hS hl => lv_if_ne C.1 C.2.1 hd ht (fun h => kt (fun h2 => h ((xi_eq ha (by decide)).mpr h2)) H locs la hP hD hS hl) (fun h => kf ((xi_eq ha (by decide)).mp h) H locs la hP hD hS hl)
theorem x_if_ne_t (C : xC p s m args meth c D A H0 nL cc Ts own TY) {a : Int} {off : Int} {tgt : Nat} (hd : decode cc pc = .ok (.ifCond .ne off, 3)) (ht : (pc : Int) + off = (tgt : Int)) (ha : R32 a) (h : ¬ a = 0) (k : xW p l e R s m args below meth c D A H0 nL cells slots Q ws tgt lv st) : xW p l e R s m args below meth c D A H0 nL cells slots Q ws pc lv (vI a :: st) :=
  x_if_ne C hd ht ha (fun _ => k) (fun h2 => absurd h2 h)
theorem x_if_ne_f (C : xC p s m args meth c D A H0 nL cc Ts own TY) {a : Int} {off : Int} {tgt : Nat} (hd : decode cc pc = .ok (.ifCond .ne off, 3)) (ht : (pc : Int) + off = (tgt : Int)) (ha : R32 a) (h : a = 0) (k : xW p l e R s m args below meth c D A H0 nL cells slots Q ws (pc + 3) lv st) : xW p l e R s m args below meth c D A H0 nL cells slots Q ws pc lv (vI a :: st) :=
  x_if_ne C hd ht ha (fun h2 => absurd h h2) (fun _ => k)
theorem x_icmp_lt (C : xC p s m args meth c D A H0 nL cc Ts own TY) {a b : Int} {off : Int} {tgt : Nat} (hd : decode cc pc = .ok (.if_icmp .lt off, 3)) (ht : (pc : Int) + off = (tgt : Int)) (ha : R32 a) (hb : R32 b) (kt : a < b → xW p l e R s m args below meth c D A H0 nL cells slots Q ws tgt lv st) (kf : ¬ (a < b) → xW p l e R s m args below meth c D A H0 nL cells slots Q ws (pc + 3) lv st) : xW p l e R s m args below meth c D A H0 nL cells slots Q ws pc lv (vI b :: vI a :: st) :=
  fun H locs la hP hD hS hl => lv_icmp_lt C.1 C.2.1 hd ht (fun h => kt ((xi_lt ha hb).mp h) H locs la hP hD hS hl) (fun h => kf (fun h2 => h ((xi_lt ha hb).mpr h2)) H locs la hP hD hS hl)
theorem x_icmp_lt_t (C : xC p s m args meth c D A H0 nL cc Ts own TY) {a b : Int} {off : Int} {tgt : Nat} (hd : decode cc pc = .ok (.if_icmp .lt off, 3)) (ht : (pc : Int) + off = (tgt : Int)) (ha : R32 a) (hb : R32 b) (h : a < b) (k : xW p l e R s m args below meth c D A H0 nL cells slots Q ws tgt lv st) : xW p l e R s m args below meth c D A H0 nL cells slots Q ws pc lv (vI b :: vI a :: st) :=
  x_icmp_lt C hd ht ha hb (fun _ => k) (fun h2 => absurd h h2)
theorem x_icmp_lt_f (C : xC p s m args meth c D A H0 nL cc Ts own TY) {a b : Int} {off : Int} {tgt : Nat} (hd : decode cc pc = .ok (.if_icmp .lt off, 3)) (ht : (pc : Int) + off = (tgt : Int)) (ha : R32 a) (hb : R32 b) (h : ¬ (a < b)) (k : xW p l e R s m args below meth c D A H0 nL cells slots Q ws (pc + 3) lv st) : xW p l e R s m args below meth c D A H0 nL cells slots Q ws pc lv (vI b :: vI a :: st) :=
  x_icmp_lt C hd ht ha hb (fun h2 => absurd h2 h) (fun _ => k)
theorem x_if_lt (C : xC p s m args meth c D A H0 nL cc Ts own TY) {a : Int} {off : Int} {tgt : Nat} (hd : decode cc pc = .ok (.ifCond .lt off, 3)) (ht : (pc : Int) + off = (tgt : Int)) (ha : R32 a) (kt : a < 0 → xW p l e R s m args below meth c D A H0 nL cells slots Q ws tgt lv st) (kf : ¬ (a < 0) → xW p l e R s m args below meth c D A H0 nL cells slots Q ws (pc + 3) lv st) : xW p l e R s m args below meth c D A H0 nL cells slots Q ws pc lv (vI a :: st) :=
  fun H locs la hP hD hS hl => lv_if_lt C.1 C.2.1 hd ht (fun h => kt ((xi_lt ha (by decide)).mp h) H locs la hP hD hS hl) (fun h => kf (fun h2 => h ((xi_lt ha (by decide)).mpr h2)) H locs la hP hD hS hl)
theorem x_if_lt_t (C : xC p s m args meth c D A H0 nL cc Ts own TY) {a : Int} {off : Int} {tgt : Nat} (hd : decode cc pc = .ok (.ifCond .lt off, 3)) (ht : (pc : Int) + off = (tgt : Int)) (ha : R32 a) (h : a < 0) (k : xW p l e R s m args below meth c D A H0 nL cells slots Q ws tgt lv st) : xW p l e R s m args below meth c D A H0 nL cells slots Q ws pc lv (vI a :: st) :=
  x_if_lt C hd ht ha (fun _ => k) (fun h2 => absurd h h2)
theorem x_if_lt_f (C : xC p s m args meth c D A H0 nL cc Ts own TY) {a : Int} {off : Int} {tgt : Nat} (hd : decode cc pc = .ok (.ifCond .lt off, 3)) (ht : (pc : Int) + off = (tgt : Int)) (ha : R32 a) (h : ¬ (a < 0)) (k : xW p l e R s m args below meth c D A H0 nL cells slots Q ws (pc + 3) lv st) : xW p l e R s m args below meth c D A H0 nL cells slots Q ws pc lv (vI a :: st) :=
  x_if_lt C hd ht ha (fun h2 => absurd h2 h) (fun _ => k)
theorem x_icmp_ge (C : xC p s m args meth c D A H0 nL cc Ts own TY) {a b : Int} {off : Int} {tgt : Nat} (hd : decode cc pc = .ok (.if_icmp .ge off, 3)) (ht : (pc : Int) + off = (tgt : Int)) (ha : R32 a) (hb : R32 b) (kt : b ≤ a → xW p l e R s m args below meth c D A H0 nL cells slots Q ws tgt lv st) (kf : ¬ (b ≤ a) → xW p l e R s m args below meth c D A H0 nL cells slots Q ws (pc + 3) lv st) : xW p l e R s m args below meth c D A H0 nL cells slots Q ws pc lv (vI b :: vI a :: st) :=
  fun H locs la hP hD hS hl => lv_icmp_ge C.1 C.2.1 hd ht (fun h => kt ((xi_le hb ha).mp h) H locs la hP hD hS hl) (fun h => kf (fun h2 => h ((xi_le hb ha).mpr h2)) H locs la hP hD hS hl)
theorem x_icmp_ge_t (C : xC p s m args meth c D A H0 nL cc Ts own TY) {a b : Int} {off : Int} {tgt : Nat} (hd : decode cc pc = .ok (.if_icmp .ge off, 3)) (ht : (pc : Int) + off = (tgt : Int)) (ha : R32 a) (hb : R32 b) (h : b ≤ a) (k : xW p l e R s m args below meth c D A H0 nL cells slots Q ws tgt lv st) : xW p l e R s m args below meth c D A H0 nL cells slots Q ws pc lv (vI b :: vI a :: st) :=
  x_icmp_ge C hd ht ha hb (fun _ => k) (fun h2 => absurd h h2)
theorem x_icmp_ge_f (C : xC p s m args meth c D A H0 nL cc Ts own TY) {a b : Int} {off : Int} {tgt : Nat} (hd : decode cc pc = .ok (.if_icmp .ge off, 3)) (ht : (pc : Int) + off = (tgt : Int)) (ha : R32 a) (hb : R32 b) (h : ¬ (b ≤ a)) (k : xW p l e R s m args below meth c D A H0 nL cells slots Q ws (pc + 3) lv st) : xW p l e R s m args below meth c D A H0 nL cells slots Q ws pc lv (vI b :: vI a :: st) :=
  x_icmp_ge C hd ht ha hb (fun h2 => absurd h2 h) (fun _ => k)
theorem x_if_ge (C : xC p s m args meth c D A H0 nL cc Ts own TY) {a : Int} {off : Int} {tgt : Nat} (hd : decode cc pc = .ok (.ifCond .ge off, 3)) (ht : (pc : Int) + off = (tgt : Int)) (ha : R32 a) (kt : 0 ≤ a → xW p l e R s m args below meth c D A H0 nL cells slots Q ws tgt lv st) (kf : ¬ (0 ≤ a) → xW p l e R s m args below meth c D A H0 nL cells slots Q ws (pc + 3) lv st) : xW p l e R s m args below meth c D A H0 nL cells slots Q ws pc lv (vI a :: st) :=
  fun H locs la hP hD hS hl => lv_if_ge C.1 C.2.1 hd ht (fun h => kt ((xi_le (by decide) ha).mp h) H locs la hP hD hS hl) (fun h => kf (fun h2 => h ((xi_le (by decide) ha).mpr h2)) H locs la hP hD hS hl)
theorem x_if_ge_t (C : xC p s m args meth c D A H0 nL cc Ts own TY) {a : Int} {off : Int} {tgt : Nat} (hd : decode cc pc = .ok (.ifCond .ge off, 3)) (ht : (pc : Int) + off = (tgt : Int)) (ha : R32 a) (h : 0 ≤ a) (k : xW p l e R s m args below meth c D A H0 nL cells slots Q ws tgt lv st) : xW p l e R s m args below meth c D A H0 nL cells slots Q ws pc lv (vI a :: st) :=
  x_if_ge C hd ht ha (fun _ => k) (fun h2 => absurd h h2)
theorem x_if_ge_f (C : xC p s m args meth c D A H0 nL cc Ts own TY) {a : Int} {off : Int} {tgt : Nat} (hd : decode cc pc = .ok (.ifCond .ge off, 3)) (ht : (pc : Int) + off = (tgt : Int)) (ha : R32 a) (h : ¬ (0 ≤ a)) (k : xW p l e R s m args below meth c D A H0 nL cells slots Q ws (pc + 3) lv st) : xW p l e R s m args below meth c D A H0 nL cells slots Q ws pc lv (vI a :: st) :=
  x_if_ge C hd ht ha (fun h2 => absurd h2 h) (fun _ => k)
theorem x_icmp_gt (C : xC p s m args meth c D A H0 nL cc Ts own TY) {a b : Int} {off : Int} {tgt : Nat} (hd : decode cc pc = .ok (.if_icmp .gt off, 3)) (ht : (pc : Int) + off = (tgt : Int)) (ha : R32 a) (hb : R32 b) (kt : b < a → xW p l e R s m args below meth c D A H0 nL cells slots Q ws tgt lv st) (kf : ¬ (b < a) → xW p l e R s m args below meth c D A H0 nL cells slots Q ws (pc + 3) lv st) : xW p l e R s m args below meth c D A H0 nL cells slots Q ws pc lv (vI b :: vI a :: st) :=
  fun H locs la hP hD hS hl => lv_icmp_gt C.1 C.2.1 hd ht (fun h => kt ((xi_lt hb ha).mp h) H locs la hP hD hS hl) (fun h => kf (fun h2 => h ((xi_lt hb ha).mpr h2)) H locs la hP hD hS hl)
theorem x_icmp_gt_t (C : xC p s m args meth c D A H0 nL cc Ts own TY) {a b : Int} {off : Int} {tgt : Nat} (hd : decode cc pc = .ok (.if_icmp .gt off, 3)) (ht : (pc : Int) + off = (tgt : Int)) (ha : R32 a) (hb : R32 b) (h : b < a) (k : xW p l e R s m args below meth c D A H0 nL cells slots Q ws tgt lv st) : xW p l e R s m args below meth c D A H0 nL cells slots Q ws pc lv (vI b :: vI a :: st) :=
  x_icmp_gt C hd ht ha hb (fun _ => k) (fun h2 => absurd h h2)
theorem x_icmp_gt_f (C : xC p s m args meth c D A H0 nL cc Ts own TY) {a b : Int} {off : Int} {tgt : Nat} (hd : decode cc pc = .ok (.if_icmp .gt off, 3)) (ht : (pc : Int) + off = (tgt : Int)) (ha : R32 a) (hb : R32 b) (h : ¬ (b < a)) (k : xW p l e R s m args below meth c D A H0 nL cells slots Q ws (pc + 3) lv st) : xW p l e R s m args below meth c D A H0 nL cells slots Q ws pc lv (vI b :: vI a :: st) :=
  x_icmp_gt C hd ht ha hb (fun h2 => absurd h2 h) (fun _ => k)
theorem x_if_gt (C : xC p s m args meth c D A H0 nL cc Ts own TY) {a : Int} {off : Int} {tgt : Nat} (hd : decode cc pc = .ok (.ifCond .gt off, 3)) (ht : (pc : Int) + off = (tgt : Int)) (ha : R32 a) (kt : 0 < a → xW p l e R s m args below meth c D A H0 nL cells slots Q ws tgt lv st) (kf : ¬ (0 < a) → xW p l e R s m args below meth c D A H0 nL cells slots Q ws (pc + 3) lv st) : xW p l e R s m args below meth c D A H0 nL cells slots Q ws pc lv (vI a :: st) :=
  fun H locs la hP hD hS hl => lv_if_gt C.1 C.2.1 hd ht (fun h => kt ((xi_lt (by decide) ha).mp h) H locs la hP hD hS hl) (fun h => kf (fun h2 => h ((xi_lt (by decide) ha).mpr h2)) H locs la hP hD hS hl)
theorem x_if_gt_t (C : xC p s m args meth c D A H0 nL cc Ts own TY) {a : Int} {off : Int} {tgt : Nat} (hd : decode cc pc = .ok (.ifCond .gt off, 3)) (ht : (pc : Int) + off = (tgt : Int)) (ha : R32 a) (h : 0 < a) (k : xW p l e R s m args below meth c D A H0 nL cells slots Q ws tgt lv st) : xW p l e R s m args below meth c D A H0 nL cells slots Q ws pc lv (vI a :: st) :=
  x_if_gt C hd ht ha (fun _ => k) (fun h2 => absurd h h2)
theorem x_if_gt_f (C : xC p s m args meth c D A H0 nL cc Ts own TY) {a : Int} {off : Int} {tgt : Nat} (hd : decode cc pc = .ok (.ifCond .gt off, 3)) (ht : (pc : Int) + off = (tgt : Int)) (ha : R32 a) (h : ¬ (0 < a)) (k : xW p l e R s m args below meth c D A H0 nL cells slots Q ws (pc + 3) lv st) : xW p l e R s m args below meth c D A H0 nL cells slots Q ws pc lv (vI a :: st) :=
  x_if_gt C hd ht ha (fun h2 => absurd h2 h) (fun _ => k)
theorem x_icmp_le (C : xC p s m args meth c D A H0 nL cc Ts own TY) {a b : Int} {off : Int} {tgt : Nat} (hd : decode cc pc = .ok (.if_icmp .le off, 3)) (ht : (pc : Int) + off = (tgt : Int)) (ha : R32 a) (hb : R32 b) (kt : a ≤ b → xW p l e R s m args below meth c D A H0 nL cells slots Q ws tgt lv st) (kf : ¬ (a ≤ b) → xW p l e R s m args below meth c D A H0 nL cells slots Q ws (pc + 3) lv st) : xW p l e R s m args below meth c D A H0 nL cells slots Q ws pc lv (vI b :: vI a :: st) :=
  fun H locs la hP hD hS hl => lv_icmp_le C.1 C.2.1 hd ht (fun h => kt ((xi_le ha hb).mp h) H locs la hP hD hS hl) (fun h => kf (fun h2 => h ((xi_le ha hb).mpr h2)) H locs la hP hD hS hl)
theorem x_icmp_le_t (C : xC p s m args meth c D A H0 nL cc Ts own TY) {a b : Int} {off : Int} {tgt : Nat} (hd : decode cc pc = .ok (.if_icmp .le off, 3)) (ht : (pc : Int) + off = (tgt : Int)) (ha : R32 a) (hb : R32 b) (h : a ≤ b) (k : xW p l e R s m args below meth c D A H0 nL cells slots Q ws tgt lv st) : xW p l e R s m args below meth c D A H0 nL cells slots Q ws pc lv (vI b :: vI a :: st) :=
  x_icmp_le C hd ht ha hb (fun _ => k) (fun h2 => absurd h h2)
theorem x_icmp_le_f (C : xC p s m args meth c D A H0 nL cc Ts own TY) {a b : Int} {off : Int} {tgt : Nat} (hd : decode cc pc = .ok (.if_icmp .le off, 3)) (ht : (pc : Int) + off = (tgt : Int)) (ha : R32 a) (hb : R32 b) (h : ¬ (a ≤ b)) (k : xW p l e R s m args below meth c D A H0 nL cells slots Q ws (pc + 3) lv st) : xW p l e R s m args below meth c D A H0 nL cells slots Q ws pc lv (vI b :: vI a :: st) :=
  x_icmp_le C hd ht ha hb (fun h2 => absurd h2 h) (fun _ => k)
theorem x_if_le (C : xC p s m args meth c D A H0 nL cc Ts own TY) {a : Int} {off : Int} {tgt : Nat} (hd : decode cc pc = .ok (.ifCond .le off, 3)) (ht : (pc : Int) + off = (tgt : Int)) (ha : R32 a) (kt : a ≤ 0 → xW p l e R s m args below meth c D A H0 nL cells slots Q ws tgt lv st) (kf : ¬ (a ≤ 0) → xW p l e R s m args below meth c D A H0 nL cells slots Q ws (pc + 3) lv st) : xW p l e R s m args below meth c D A H0 nL cells slots Q ws pc lv (vI a :: st) :=
  fun H locs la hP hD hS hl => lv_if_le C.1 C.2.1 hd ht (fun h => kt ((xi_le ha (by decide)).mp h) H locs la hP hD hS hl) (fun h => kf (fun h2 => h ((xi_le ha (by decide)).mpr h2)) H locs la hP hD hS hl)
theorem x_if_le_t (C : xC p s m args meth c D A H0 nL cc Ts own TY) {a : Int} {off : Int} {tgt : Nat} (hd : decode cc pc = .ok (.ifCond .le off, 3)) (ht : (pc : Int) + off = (tgt : Int)) (ha : R32 a) (h : a ≤ 0) (k : xW p l e R s m args below meth c D A H0 nL cells slots Q ws tgt lv st) : xW p l e R s m args below meth c D A H0 nL cells slots Q ws pc lv (vI a :: st) :=
  x_if_le C hd ht ha (fun _ => k) (fun h2 => absurd h h2)
theorem x_if_le_f (C : xC p s m args meth c D A H0 nL cc Ts own TY) {a : Int} {off : Int} {tgt : Nat} (hd : decode cc pc = .ok (.ifCond .le off, 3)) (ht : (pc : Int) + off = (tgt : Int)) (ha : R32 a) (h : ¬ (a ≤ 0)) (k : xW p l e R s m args below meth c D A H0 nL cells slots Q ws (pc + 3) lv st) : xW p l e R s m args below meth c D A H0 nL cells slots Q ws pc lv (vI a :: st) :=
  x_if_le C hd ht ha (fun h2 => absurd h2 h) (fun _ => k)
theorem lg_v (x y : Int64) : lg_cmp x y = if y < x then 1 else if x = y then 0 else -1 := rfl
def lcI (a b : Int) : Int := if b < a then 1 else if a = b then 0 else -1
theorem lcI_r (a b : Int) : R32 (lcI a b) := by
  unfold lcI
  repeat' split
  all_goals omega
theorem lcI_lt (a b : Int) : lcI a b < 0 ↔ a < b := by
  unfold lcI
  repeat' split
  all_goals omega
theorem lcI_eq (a b : Int) : lcI a b = 0 ↔ a = b := by
  unfold lcI
  repeat' split
  all_goals omega
theorem lcI_gt (a b : Int) : 0 < lcI a b ↔ b < a := by
  unfold lcI
  repeat' split
  all_goals omega
theorem lcI_ge (a b : Int) : 0 ≤ lcI a b ↔ b ≤ a := by
  unfold lcI
  repeat' split
  all_goals omega
theorem lcI_le (a b : Int) : lcI a b ≤ 0 ↔ a ≤ b := by
  unfold lcI
  repeat' split
  all_goals omega
theorem x_lcmp (C : xC p s m args meth c D A H0 nL cc Ts own TY) {a b v : Int} (hv : lcI a b = v) (hd : decode cc pc = .ok (.lcmp, 1)) (ha : R64 a) (hb : R64 b) (k : xW p l e R s m args below meth c D A H0 nL cells slots Q ws (pc + 1) lv (vI v :: st)) : xW p l e R s m args below meth c D A H0 nL cells slots Q ws pc lv (vJ b :: vJ a :: st) := by
  intro H locs la hP hD hS hl
  refine W.lcmp C.1 C.2.1 hd ?_
  subst hv
  have k := k H locs la hP hD hS hl
  have e : lg_cmp (Int64.ofInt a) (Int64.ofInt b) = Int32.ofInt (lcI a b) := by
    rw [lg_v]
    simp only [xj_lt hb ha, xj_eq ha hb, lcI]
    split
    · rfl
    · split <;> rfl
  rw [e]
  exact k
end XL
