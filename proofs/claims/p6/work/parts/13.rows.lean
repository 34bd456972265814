section XWR
variable {p : Program} {l : Launch} {e : Env} {R : Room} {s : State} {m : MethodId} {args : Array Value} {below : List Frame} {meth : Method} {c : Code} {cells slots : Nat} {Q : State → Prop}
variable {D : va_G} {A : Nat → Prop} {H0 : Heap} {nL : Nat} {pc : Nat} {lv : List (Nat × Value)} {st : List Value} {cc : ByteArray} {own : String} {cy : Nat → ClassId}
variable {N : Nat} {dsc : Nat → xD} {ad : Nat → Nat} {V J : Nat → Nat → Int} {Rr : Nat → Nat → Nat}
abbrev xTY (cy : Nat → ClassId) : List (ClassId × FieldType) := [(cy 0, .int), (cy 1, .long), (cy 2, .byte), (cy 3, .char), (cy 4, .object RX5), (cy 5, .object RX4), (cy 6, .object RX9)]
theorem x_getI (C : xC2 p s m args meth c D A H0 nL cc own (xTY cy)) {i ci : Nat} {ks : List Nat} (hi : i < N) (hds : dsc i = .inl (ci, ks)) {Cn : String} {T : u_T} {NN index : Nat} (hc : vwCl[ci]? = some (Cn, T, NN)) (hin : ∀ w ∈ u_ws Cn T NN, w ∈ WG) (k : Nat) (hk : k < NN) (hw : Cond.fieldLink own index (T k).1 (T k).2.1 (T k).2.2.1 ∈ WG) (hks : ks[k]? = some 0) (hd : decode cc pc = .ok (.getfield index, 3)) {a : Int} (hv : V i k = a) (kk : xW p l e R s m args below meth c D A H0 nL cells slots Q (xw N dsc cy ad V J Rr) (pc + 3) lv (vI a :: st)) : xW p l e R s m args below meth c D A H0 nL cells slots Q (xw N dsc cy ad V J Rr) pc lv (.ref (ad i) :: st) :=
  fun H locs la hP hD hS hl => va_get C.1.1 C.1.2.1 C.1.2.2.2.2.1 hin C.1.2.2.2.1 C.1.2.2.2.2.2.1 hP i (xw_at hi hds) hc k hk (C.1.2.2.2.2.1 _ hw) (fun _ h => h) (v := vI a) (by rw [xvals_get ks 0 k hks, Nat.zero_add]; simp only [xval, hv]) hd (kk H locs la hP hD hS hl)
theorem x_getJ (C : xC2 p s m args meth c D A H0 nL cc own (xTY cy)) {i ci : Nat} {ks : List Nat} (hi : i < N) (hds : dsc i = .inl (ci, ks)) {Cn : String} {T : u_T} {NN index : Nat} (hc : vwCl[ci]? = some (Cn, T, NN)) (hin : ∀ w ∈ u_ws Cn T NN, w ∈ WG) (k : Nat) (hk : k < NN) (hw : Cond.fieldLink own index (T k).1 (T k).2.1 (T k).2.2.1 ∈ WG) (hks : ks[k]? = some 1) (hd : decode cc pc = .ok (.getfield index, 3)) {a : Int} (hv : J i k = a) (kk : xW p l e R s m args below meth c D A H0 nL cells slots Q (xw N dsc cy ad V J Rr) (pc + 3) lv (vJ a :: st)) : xW p l e R s m args below meth c D A H0 nL cells slots Q (xw N dsc cy ad V J Rr) pc lv (.ref (ad i) :: st) :=
  fun H locs la hP hD hS hl => va_get C.1.1 C.1.2.1 C.1.2.2.2.2.1 hin C.1.2.2.2.1 C.1.2.2.2.2.2.1 hP i (xw_at hi hds) hc k hk (C.1.2.2.2.2.1 _ hw) (fun _ h => h) (v := vJ a) (by rw [xvals_get ks 0 k hks, Nat.zero_add]; simp only [xval, hv]) hd (kk H locs la hP hD hS hl)
theorem x_getR (C : xC2 p s m args meth c D A H0 nL cc own (xTY cy)) {i ci : Nat} {ks : List Nat} (hi : i < N) (hds : dsc i = .inl (ci, ks)) {Cn : String} {T : u_T} {NN index : Nat} (hc : vwCl[ci]? = some (Cn, T, NN)) (hin : ∀ w ∈ u_ws Cn T NN, w ∈ WG) (k : Nat) (hk : k < NN) (hw : Cond.fieldLink own index (T k).1 (T k).2.1 (T k).2.2.1 ∈ WG) (hks : ks[k]? = some 2) (hd : decode cc pc = .ok (.getfield index, 3)) {a : Nat} (hv : Rr i k = a) (kk : xW p l e R s m args below meth c D A H0 nL cells slots Q (xw N dsc cy ad V J Rr) (pc + 3) lv (.ref (ad a) :: st)) : xW p l e R s m args below meth c D A H0 nL cells slots Q (xw N dsc cy ad V J Rr) pc lv (.ref (ad i) :: st) :=
  fun H locs la hP hD hS hl => va_get C.1.1 C.1.2.1 C.1.2.2.2.2.1 hin C.1.2.2.2.1 C.1.2.2.2.2.2.1 hP i (xw_at hi hds) hc k hk (C.1.2.2.2.2.1 _ hw) (fun _ h => h) (v := .ref (ad a)) (by rw [xvals_get ks 0 k hks, Nat.zero_add]; simp only [xval, hv]) hd (kk H locs la hP hD hS hl)
theorem x_getA (C : xC2 p s m args meth c D A H0 nL cc own (xTY cy)) {i ci : Nat} {ks : List Nat} (hi : i < N) (hds : dsc i = .inl (ci, ks)) {Cn : String} {T : u_T} {NN index : Nat} (hc : vwCl[ci]? = some (Cn, T, NN)) (hin : ∀ w ∈ u_ws Cn T NN, w ∈ WG) (k : Nat) (hk : k < NN) (hw : Cond.fieldLink own index (T k).1 (T k).2.1 (T k).2.2.1 ∈ WG) {a : Nat} (hks : ks[k]? = some (a + 3)) (hd : decode cc pc = .ok (.getfield index, 3))  (kk : xW p l e R s m args below meth c D A H0 nL cells slots Q (xw N dsc cy ad V J Rr) (pc + 3) lv (.ref (ad a) :: st)) : xW p l e R s m args below meth c D A H0 nL cells slots Q (xw N dsc cy ad V J Rr) pc lv (.ref (ad i) :: st) :=
  fun H locs la hP hD hS hl => va_get C.1.1 C.1.2.1 C.1.2.2.2.2.1 hin C.1.2.2.2.1 C.1.2.2.2.2.2.1 hP i (xw_at hi hds) hc k hk (C.1.2.2.2.2.1 _ hw) (fun _ h => h) (v := .ref (ad a)) (by rw [xvals_get ks 0 k hks, Nat.zero_add]; rfl) hd (kk H locs la hP hD hS hl)
theorem x_putI (C : xC2 p s m args meth c D A H0 nL cc own (xTY cy)) {i ci : Nat} {ks : List Nat} (hi : i < N) (hds : dsc i = .inl (ci, ks)) {Cn : String} {T : u_T} {NN index : Nat} (hc : vwCl[ci]? = some (Cn, T, NN)) (hin : ∀ w ∈ u_ws Cn T NN, w ∈ WG) (k : Nat) (hk : k < NN) (hw : Cond.fieldLink own index (T k).1 (T k).2.1 (T k).2.2.1 ∈ WG) (ty0 : Nat → FieldType) (hty : ∀ k, k < NN → parseFieldDescriptor (T k).2.2.1 = some (ty0 k)) (hnm : ∀ a, a < NN → ∀ b, b < NN → a ≠ b → (T a).2.1 ≠ (T b).2.1) (hfin : (T k).2.2.2 = false) {ty : FieldType} (hpd : parseFieldDescriptor (T k).2.2.1 = some ty) (hks : ks[k]? = some 0) (hd : decode cc pc = .ok (.putfield index, 3)) {a : Int} (hnar : narrow ty (vI a) = vI a) (hfit : fits ty (vI a) = true) (kk : xW p l e R s m args below meth c D A H0 nL cells slots Q (xw N dsc cy ad (up2 V i k a) J Rr) (pc + 3) lv st) : xW p l e R s m args below meth c D A H0 nL cells slots Q (xw N dsc cy ad V J Rr) pc lv (vI a :: .ref (ad i) :: st) := by
  intro H locs la hP hD hS hl
  have e1 : (xw N dsc cy ad V J Rr).set i (ad i, .inr (ci, (xvals ad (V i) (J i) (Rr i) 0 ks).set k (vI a))) = xw N dsc cy ad (up2 V i k a) J Rr := by
    refine xw_set hi ?_ (fun j hj => up2_c _ _ hj) (fun j hj => rfl) (fun j hj => rfl)
    rw [hds, xvals_setV ks 0 k hks]
    simp [xE, up2]
  refine va_put C.1.1 C.1.2.1 C.1.2.2.2.2.1 hin ty0 hty hnm C.1.2.2.2.1 C.1.2.2.2.2.2.1 hP hD hS i (xw_at hi hds) hc k hk (C.1.2.2.2.2.1 _ hw) (fun _ h => h) hfin hpd hnar hfit (by rw [xvals_len]; exact (List.getElem?_eq_some_iff.mp hks).1) hd (fun H1 locs1 hP1 hD1 hS1 => ?_)
  rw [e1] at hP1 hD1
  exact kk H1 locs1 la hP1 hD1 hS1 hl
theorem x_putJ (C : xC2 p s m args meth c D A H0 nL cc own (xTY cy)) {i ci : Nat} {ks : List Nat} (hi : i < N) (hds : dsc i = .inl (ci, ks)) {Cn : String} {T : u_T} {NN index : Nat} (hc : vwCl[ci]? = some (Cn, T, NN)) (hin : ∀ w ∈ u_ws Cn T NN, w ∈ WG) (k : Nat) (hk : k < NN) (hw : Cond.fieldLink own index (T k).1 (T k).2.1 (T k).2.2.1 ∈ WG) (ty0 : Nat → FieldType) (hty : ∀ k, k < NN → parseFieldDescriptor (T k).2.2.1 = some (ty0 k)) (hnm : ∀ a, a < NN → ∀ b, b < NN → a ≠ b → (T a).2.1 ≠ (T b).2.1) (hfin : (T k).2.2.2 = false) {ty : FieldType} (hpd : parseFieldDescriptor (T k).2.2.1 = some ty) (hks : ks[k]? = some 1) (hd : decode cc pc = .ok (.putfield index, 3)) {a : Int} (hnar : narrow ty (vJ a) = vJ a) (hfit : fits ty (vJ a) = true) (kk : xW p l e R s m args below meth c D A H0 nL cells slots Q (xw N dsc cy ad V (up2 J i k a) Rr) (pc + 3) lv st) : xW p l e R s m args below meth c D A H0 nL cells slots Q (xw N dsc cy ad V J Rr) pc lv (vJ a :: .ref (ad i) :: st) := by
  intro H locs la hP hD hS hl
  have e1 : (xw N dsc cy ad V J Rr).set i (ad i, .inr (ci, (xvals ad (V i) (J i) (Rr i) 0 ks).set k (vJ a))) = xw N dsc cy ad V (up2 J i k a) Rr := by
    refine xw_set hi ?_ (fun j hj => rfl) (fun j hj => up2_c _ _ hj) (fun j hj => rfl)
    rw [hds, xvals_setJ ks 0 k hks]
    simp [xE, up2]
  refine va_put C.1.1 C.1.2.1 C.1.2.2.2.2.1 hin ty0 hty hnm C.1.2.2.2.1 C.1.2.2.2.2.2.1 hP hD hS i (xw_at hi hds) hc k hk (C.1.2.2.2.2.1 _ hw) (fun _ h => h) hfin hpd hnar hfit (by rw [xvals_len]; exact (List.getElem?_eq_some_iff.mp hks).1) hd (fun H1 locs1 hP1 hD1 hS1 => ?_)
  rw [e1] at hP1 hD1
  exact kk H1 locs1 la hP1 hD1 hS1 hl
theorem x_putR (C : xC2 p s m args meth c D A H0 nL cc own (xTY cy)) {i ci : Nat} {ks : List Nat} (hi : i < N) (hds : dsc i = .inl (ci, ks)) {Cn : String} {T : u_T} {NN index : Nat} (hc : vwCl[ci]? = some (Cn, T, NN)) (hin : ∀ w ∈ u_ws Cn T NN, w ∈ WG) (k : Nat) (hk : k < NN) (hw : Cond.fieldLink own index (T k).1 (T k).2.1 (T k).2.2.1 ∈ WG) (ty0 : Nat → FieldType) (hty : ∀ k, k < NN → parseFieldDescriptor (T k).2.2.1 = some (ty0 k)) (hnm : ∀ a, a < NN → ∀ b, b < NN → a ≠ b → (T a).2.1 ≠ (T b).2.1) (hfin : (T k).2.2.2 = false) {ty : FieldType} (hpd : parseFieldDescriptor (T k).2.2.1 = some ty) (hks : ks[k]? = some 2) (hd : decode cc pc = .ok (.putfield index, 3)) {a : Nat} (hnar : narrow ty (.ref (ad a)) = .ref (ad a)) (hfit : fits ty (.ref (ad a)) = true) (kk : xW p l e R s m args below meth c D A H0 nL cells slots Q (xw N dsc cy ad V J (up2 Rr i k a)) (pc + 3) lv st) : xW p l e R s m args below meth c D A H0 nL cells slots Q (xw N dsc cy ad V J Rr) pc lv (.ref (ad a) :: .ref (ad i) :: st) := by
  intro H locs la hP hD hS hl
  have e1 : (xw N dsc cy ad V J Rr).set i (ad i, .inr (ci, (xvals ad (V i) (J i) (Rr i) 0 ks).set k (.ref (ad a)))) = xw N dsc cy ad V J (up2 Rr i k a) := by
    refine xw_set hi ?_ (fun j hj => rfl) (fun j hj => rfl) (fun j hj => up2_c _ _ hj)
    rw [hds, xvals_setR ks 0 k hks]
    simp [xE, up2]
  refine va_put C.1.1 C.1.2.1 C.1.2.2.2.2.1 hin ty0 hty hnm C.1.2.2.2.1 C.1.2.2.2.2.2.1 hP hD hS i (xw_at hi hds) hc k hk (C.1.2.2.2.2.1 _ hw) (fun _ h => h) hfin hpd hnar hfit (by rw [xvals_len]; exact (List.getElem?_eq_some_iff.mp hks).1) hd (fun H1 locs1 hP1 hD1 hS1 => ?_)
  rw [e1] at hP1 hD1
  exact kk H1 locs1 la hP1 hD1 hS1 hl
theorem x_iald (C : xC2 p s m args meth c D A H0 nL cc own (xTY cy)) {i n b d : Nat} {q : Int} (hi : i < N) (hds : dsc i = .inr (0, n, 0, b, d)) (hq : 0 ≤ q ∧ q < n) (hn : n < 2147483648) (hd : decode cc pc = .ok (.iaload, 1)) {a : Int} (hv : V i q.toNat = a) (kk : xW p l e R s m args below meth c D A H0 nL cells slots Q (xw N dsc cy ad V J Rr) (pc + 1) lv (vI a :: st)) : xW p l e R s m args below meth c D A H0 nL cells slots Q (xw N dsc cy ad V J Rr) pc lv (vI q :: .ref (ad i) :: st) := by
  intro H locs la hP hD hS hl
  refine va_iald C.1.1 C.1.2.1 C.1.2.2.2.2.2.1 hP i 0 (xw_at hi hds) rfl (xi_in hq hn) hd ?_
  rw [xi_nat ⟨by omega, by omega⟩, hv]
  exact kk H locs la hP hD hS hl
theorem x_bald (C : xC2 p s m args meth c D A H0 nL cc own (xTY cy)) {i n b d : Nat} {q : Int} (hi : i < N) (hds : dsc i = .inr (2, n, 0, b, d)) (hq : 0 ≤ q ∧ q < n) (hn : n < 2147483648) (hd : decode cc pc = .ok (.baload, 1)) {a : Int} (hv : V i q.toNat = a) (kk : xW p l e R s m args below meth c D A H0 nL cells slots Q (xw N dsc cy ad V J Rr) (pc + 1) lv (vI a :: st)) : xW p l e R s m args below meth c D A H0 nL cells slots Q (xw N dsc cy ad V J Rr) pc lv (vI q :: .ref (ad i) :: st) := by
  intro H locs la hP hD hS hl
  refine va_bald C.1.1 C.1.2.1 C.1.2.2.2.2.2.1 hP i 2 (xw_at hi hds) rfl (xi_in hq hn) hd ?_
  rw [xi_nat ⟨by omega, by omega⟩, hv]
  exact kk H locs la hP hD hS hl
theorem x_cald (C : xC2 p s m args meth c D A H0 nL cc own (xTY cy)) {i n b d : Nat} {q : Int} (hi : i < N) (hds : dsc i = .inr (3, n, 0, b, d)) (hq : 0 ≤ q ∧ q < n) (hn : n < 2147483648) (hd : decode cc pc = .ok (.caload, 1)) {a : Int} (hv : V i q.toNat = a) (kk : xW p l e R s m args below meth c D A H0 nL cells slots Q (xw N dsc cy ad V J Rr) (pc + 1) lv (vI a :: st)) : xW p l e R s m args below meth c D A H0 nL cells slots Q (xw N dsc cy ad V J Rr) pc lv (vI q :: .ref (ad i) :: st) := by
  intro H locs la hP hD hS hl
  refine va_cald C.1.1 C.1.2.1 C.1.2.2.2.2.2.1 hP i 3 (xw_at hi hds) rfl (xi_in hq hn) hd ?_
  rw [xi_nat ⟨by omega, by omega⟩, hv]
  exact kk H locs la hP hD hS hl
theorem x_lald (C : xC2 p s m args meth c D A H0 nL cc own (xTY cy)) {i n b d : Nat} {q : Int} (hi : i < N) (hds : dsc i = .inr (1, n, 1, b, d)) (hq : 0 ≤ q ∧ q < n) (hn : n < 2147483648) (hd : decode cc pc = .ok (.laload, 1)) {a : Int} (hv : J i q.toNat = a) (kk : xW p l e R s m args below meth c D A H0 nL cells slots Q (xw N dsc cy ad V J Rr) (pc + 1) lv (vJ a :: st)) : xW p l e R s m args below meth c D A H0 nL cells slots Q (xw N dsc cy ad V J Rr) pc lv (vI q :: .ref (ad i) :: st) := by
  intro H locs la hP hD hS hl
  refine va_lald C.1.1 C.1.2.1 C.1.2.2.2.2.2.1 hP i 1 (xw_at hi hds) rfl (xi_in hq hn) hd ?_
  rw [xi_nat ⟨by omega, by omega⟩, hv]
  exact kk H locs la hP hD hS hl
theorem x_iast (C : xC2 p s m args meth c D A H0 nL cc own (xTY cy)) {i n b d : Nat} {q : Int} (hi : i < N) (hds : dsc i = .inr (0, n, 0, b, d)) (hq : 0 ≤ q ∧ q < n) (hn : n < 2147483648) {a : Int} (hd : decode cc pc = .ok (.iastore, 1)) (kk : xW p l e R s m args below meth c D A H0 nL cells slots Q (xw N dsc cy ad (up2 V i q.toNat a) J Rr) (pc + 1) lv st) : xW p l e R s m args below meth c D A H0 nL cells slots Q (xw N dsc cy ad V J Rr) pc lv (vI a :: vI q :: .ref (ad i) :: st) := by
  intro H locs la hP hD hS hl
  refine va_iast C.1.1 C.1.2.1 C.1.2.2.2.2.2.1 hP hD hS i 0 (xw_at hi hds) rfl (xi_in hq hn) hd (fun H1 locs1 hP1 hD1 hS1 => ?_)
  have e1 : (xw N dsc cy ad V J Rr).set i (ad i, .inl (cy 0, n, .inl (upd (fun k => Int32.ofInt (V i k)) (Int32.ofInt q).toNatClampNeg (Int32.ofInt a)))) = xw N dsc cy ad (up2 V i q.toNat a) J Rr := by
    refine xw_set hi ?_ (fun j hj => up2_c _ _ hj) (fun j hj => rfl) (fun j hj => rfl)
    rw [hds]
    have e : upd (fun k => Int32.ofInt (V i k)) (Int32.ofInt q).toNatClampNeg (Int32.ofInt a) = fun k => Int32.ofInt (up2 V i q.toNat a i k) := by
      funext k
      rw [xi_nat (a := q) ⟨by omega, by omega⟩]
      simp only [upd, up2, up1, if_true]
      split <;> rfl
    rw [e]
    rfl
  rw [e1] at hP1 hD1
  exact kk H1 locs1 la hP1 hD1 hS1 hl
theorem x_bast (C : xC2 p s m args meth c D A H0 nL cc own (xTY cy)) {i n b d : Nat} {q : Int} (hi : i < N) (hds : dsc i = .inr (2, n, 0, b, d)) (hq : 0 ≤ q ∧ q < n) (hn : n < 2147483648) {a : Int} (hnar : vp_nar .byte (Int32.ofInt a) = Int32.ofInt a) (hd : decode cc pc = .ok (.bastore, 1)) (kk : xW p l e R s m args below meth c D A H0 nL cells slots Q (xw N dsc cy ad (up2 V i q.toNat a) J Rr) (pc + 1) lv st) : xW p l e R s m args below meth c D A H0 nL cells slots Q (xw N dsc cy ad V J Rr) pc lv (vI a :: vI q :: .ref (ad i) :: st) := by
  intro H locs la hP hD hS hl
  refine va_bast C.1.1 C.1.2.1 C.1.2.2.2.2.2.1 hP hD hS i 2 (xw_at hi hds) rfl (xi_in hq hn) hd (fun H1 locs1 hP1 hD1 hS1 => ?_)
  have e1 : (xw N dsc cy ad V J Rr).set i (ad i, .inl (cy 2, n, .inl (upd (fun k => Int32.ofInt (V i k)) (Int32.ofInt q).toNatClampNeg (vp_nar .byte (Int32.ofInt a))))) = xw N dsc cy ad (up2 V i q.toNat a) J Rr := by
    refine xw_set hi ?_ (fun j hj => up2_c _ _ hj) (fun j hj => rfl) (fun j hj => rfl)
    rw [hds]
    rw [hnar]
    have e : upd (fun k => Int32.ofInt (V i k)) (Int32.ofInt q).toNatClampNeg (Int32.ofInt a) = fun k => Int32.ofInt (up2 V i q.toNat a i k) := by
      funext k
      rw [xi_nat (a := q) ⟨by omega, by omega⟩]
      simp only [upd, up2, up1, if_true]
      split <;> rfl
    rw [e]
    rfl
  rw [e1] at hP1 hD1
  exact kk H1 locs1 la hP1 hD1 hS1 hl
theorem x_cast (C : xC2 p s m args meth c D A H0 nL cc own (xTY cy)) {i n b d : Nat} {q : Int} (hi : i < N) (hds : dsc i = .inr (3, n, 0, b, d)) (hq : 0 ≤ q ∧ q < n) (hn : n < 2147483648) {a : Int} (hnar : vp_nar .char (Int32.ofInt a) = Int32.ofInt a) (hd : decode cc pc = .ok (.castore, 1)) (kk : xW p l e R s m args below meth c D A H0 nL cells slots Q (xw N dsc cy ad (up2 V i q.toNat a) J Rr) (pc + 1) lv st) : xW p l e R s m args below meth c D A H0 nL cells slots Q (xw N dsc cy ad V J Rr) pc lv (vI a :: vI q :: .ref (ad i) :: st) := by
  intro H locs la hP hD hS hl
  refine va_cast C.1.1 C.1.2.1 C.1.2.2.2.2.2.1 hP hD hS i 3 (xw_at hi hds) rfl (xi_in hq hn) hd (fun H1 locs1 hP1 hD1 hS1 => ?_)
  have e1 : (xw N dsc cy ad V J Rr).set i (ad i, .inl (cy 3, n, .inl (upd (fun k => Int32.ofInt (V i k)) (Int32.ofInt q).toNatClampNeg (vp_nar .char (Int32.ofInt a))))) = xw N dsc cy ad (up2 V i q.toNat a) J Rr := by
    refine xw_set hi ?_ (fun j hj => up2_c _ _ hj) (fun j hj => rfl) (fun j hj => rfl)
    rw [hds]
    rw [hnar]
    have e : upd (fun k => Int32.ofInt (V i k)) (Int32.ofInt q).toNatClampNeg (Int32.ofInt a) = fun k => Int32.ofInt (up2 V i q.toNat a i k) := by
      funext k
      rw [xi_nat (a := q) ⟨by omega, by omega⟩]
      simp only [upd, up2, up1, if_true]
      split <;> rfl
    rw [e]
    rfl
  rw [e1] at hP1 hD1
  exact kk H1 locs1 la hP1 hD1 hS1 hl
theorem x_last (C : xC2 p s m args meth c D A H0 nL cc own (xTY cy)) {i n b d : Nat} {q : Int} (hi : i < N) (hds : dsc i = .inr (1, n, 1, b, d)) (hq : 0 ≤ q ∧ q < n) (hn : n < 2147483648) {a : Int} (hd : decode cc pc = .ok (.lastore, 1)) (kk : xW p l e R s m args below meth c D A H0 nL cells slots Q (xw N dsc cy ad V (up2 J i q.toNat a) Rr) (pc + 1) lv st) : xW p l e R s m args below meth c D A H0 nL cells slots Q (xw N dsc cy ad V J Rr) pc lv (vJ a :: vI q :: .ref (ad i) :: st) := by
  intro H locs la hP hD hS hl
  refine va_last C.1.1 C.1.2.1 C.1.2.2.2.2.2.1 hP hD hS i 1 (xw_at hi hds) rfl (xi_in hq hn) hd (fun H1 locs1 hP1 hD1 hS1 => ?_)
  have e1 : (xw N dsc cy ad V J Rr).set i (ad i, .inl (cy 1, n, .inr (.inl (vp_updL (fun k => Int64.ofInt (J i k)) (Int32.ofInt q).toNatClampNeg (Int64.ofInt a))))) = xw N dsc cy ad V (up2 J i q.toNat a) Rr := by
    refine xw_set hi ?_ (fun j hj => rfl) (fun j hj => up2_c _ _ hj) (fun j hj => rfl)
    rw [hds]
    have e : vp_updL (fun k => Int64.ofInt (J i k)) (Int32.ofInt q).toNatClampNeg (Int64.ofInt a) = fun k => Int64.ofInt (up2 J i q.toNat a i k) := by
      funext k
      rw [xi_nat (a := q) ⟨by omega, by omega⟩]
      simp only [vp_updL, up2, up1, if_true]
      split <;> rfl
    rw [e]
    rfl
  rw [e1] at hP1 hD1
  exact kk H1 locs1 la hP1 hD1 hS1 hl
theorem x_aldS (C : xC2 p s m args meth c D A H0 nL cc own (xTY cy)) {t : Nat} {Cn : String} (ht : (xTY cy)[t]? = some (cy t, .object Cn)) {i n z b d : Nat} {q : Int} (hi : i < N) (hds : dsc i = .inr (t, n, z + 3, b, d)) (hq : 0 ≤ q ∧ q < n) (hn : n < 2147483648) (hd : decode cc pc = .ok (.aaload, 1)) {a : Nat} (hv : b + d * q.toNat = a) (kk : xW p l e R s m args below meth c D A H0 nL cells slots Q (xw N dsc cy ad V J Rr) (pc + 1) lv (.ref (ad a) :: st)) : xW p l e R s m args below meth c D A H0 nL cells slots Q (xw N dsc cy ad V J Rr) pc lv (vI q :: .ref (ad i) :: st) := by
  intro H locs la hP hD hS hl
  refine va_aldq C.1.1 C.1.2.1 C.1.2.2.2.2.2.1 hP i t (xw_at hi hds) ht (xi_in hq hn) hd ?_
  rw [xi_nat ⟨by omega, by omega⟩, hv]
  exact kk H locs la hP hD hS hl
theorem x_aldR (C : xC2 p s m args meth c D A H0 nL cc own (xTY cy)) {t : Nat} {Cn : String} (ht : (xTY cy)[t]? = some (cy t, .object Cn)) {i n b d : Nat} {q : Int} (hi : i < N) (hds : dsc i = .inr (t, n, 2, b, d)) (hq : 0 ≤ q ∧ q < n) (hn : n < 2147483648) (hd : decode cc pc = .ok (.aaload, 1)) {a : Nat} (hv : Rr i q.toNat = a) (kk : xW p l e R s m args below meth c D A H0 nL cells slots Q (xw N dsc cy ad V J Rr) (pc + 1) lv (.ref (ad a) :: st)) : xW p l e R s m args below meth c D A H0 nL cells slots Q (xw N dsc cy ad V J Rr) pc lv (vI q :: .ref (ad i) :: st) := by
  intro H locs la hP hD hS hl
  refine va_aldq C.1.1 C.1.2.1 C.1.2.2.2.2.2.1 hP i t (xw_at hi hds) ht (xi_in hq hn) hd ?_
  rw [xi_nat ⟨by omega, by omega⟩, hv]
  exact kk H locs la hP hD hS hl
theorem x_alenI (C : xC2 p s m args meth c D A H0 nL cc own (xTY cy)) {t : Nat} {ty : FieldType} (ht : (xTY cy)[t]? = some (cy t, ty)) {i n b d : Nat} (hi : i < N) (hds : dsc i = .inr (t, n, 0, b, d)) (hd : decode cc pc = .ok (.arraylength, 1)) (kk : xW p l e R s m args below meth c D A H0 nL cells slots Q (xw N dsc cy ad V J Rr) (pc + 1) lv (vI n :: st)) : xW p l e R s m args below meth c D A H0 nL cells slots Q (xw N dsc cy ad V J Rr) pc lv (.ref (ad i) :: st) := by
  intro H locs la hP hD hS hl
  exact va_alen C.1.1 C.1.2.1 C.1.2.2.2.2.2.1 hP i t (xw_at hi hds) ht (v := Int32.ofInt n) (by rw [Int32.ofInt_eq_ofNat]) hd (kk H locs la hP hD hS hl)
theorem x_alenJ (C : xC2 p s m args meth c D A H0 nL cc own (xTY cy)) {t : Nat} {ty : FieldType} (ht : (xTY cy)[t]? = some (cy t, ty)) {i n b d : Nat} (hi : i < N) (hds : dsc i = .inr (t, n, 1, b, d)) (hd : decode cc pc = .ok (.arraylength, 1)) (kk : xW p l e R s m args below meth c D A H0 nL cells slots Q (xw N dsc cy ad V J Rr) (pc + 1) lv (vI n :: st)) : xW p l e R s m args below meth c D A H0 nL cells slots Q (xw N dsc cy ad V J Rr) pc lv (.ref (ad i) :: st) := by
  intro H locs la hP hD hS hl
  exact va_alen C.1.1 C.1.2.1 C.1.2.2.2.2.2.1 hP i t (xw_at hi hds) ht (v := Int32.ofInt n) (by rw [Int32.ofInt_eq_ofNat]) hd (kk H locs la hP hD hS hl)
end XWR
