-- ===== end of PART A; then your names; then what follows =====
/-! THE CLAIM OUT OF ONE WALK OF THE LAW'S BODY. Your part is whole_start (and what it stands on); all else here is the same for every law, but numbers. -/
def R_law : String := "LandingTreeLaw"
def lw_P (b : Addr) (xs : List Int32) (args : Array Value) (s : State) : Prop := args = #[.ref b] ∧ s.IntsAt b xs ∧ xs.length ≤ 3072 ∧ (Jvm.Cond.and given_1 narrow_1).before args s = true
def lw_Q (_ : Array Value) (s : State) (o : Outcome) (t : State) : Prop := o = .returned (some (.int 1)) ∧ Framed s o t [] 600000 7302250
def lw_Z (below : List Frame) (a : Array Value) (s : State) : State → Prop := fun t => ∃ o, t.status = .running ∧ Ended t below o ∧ lw_Q a s o t
/-- the law's own end, with 1 on the stack, nothing written that was there before, its room as the claim has it -/
theorem lw_ret {p : Program} {l : Launch} {e : Env} {s : State} {m : MethodId} {below : List Frame} {meth : Method} {c : Code} {b : Nat} (hx : p.tables.exec = Jvm.exec) (hb : c.code = code) (hr : meth.sig.returnType = ret) (hlocks : meth.locks = false) {pc : Nat} {H : Heap} {ls : Array Slot} (hdg : decode code pc = .ok (.ireturn, 1)) : W p l e room_1 s m #[Value.ref b] below meth c H [] 600000 7302250 (lw_Z below #[Value.ref b] s) (F0 m pc ls [.int 1]) := by
  intro T hT X
  obtain ⟨fs, hret, hrun, hended, hW, hframe⟩ := X.leave (v := some (.int 1)) (hlocks := hlocks) (fun h => by rw [hr] at h; cases h)
  have hmeth' : T.vm.method? m = some meth := X.method'
  refine ⟨T.setFrames fs, ?_, .returned (some (.int 1)), hrun, hended, rfl, ⟨_, rfl⟩, hW, hframe⟩
  jvm_step X.here [X.here.top, hx, hb, hdg, hmeth', hr, ret, narrow_b1]
  (try refine ⟨rfl, ?_⟩); (try refine ⟨rfl, ?_⟩)
  first | (intro acts; rw [hret _ acts rfl rfl rfl]) | rw [hret _ _ rfl rfl rfl]
  exact Steps.refl _
/-- what holds at the law's entry: the machine, the code, the tables' words (any of lw_tbl by 'hts w (by decide +kernel)'), the script of L ints xs at the cell b, what the Statement gives of the start (any of its parts by flat_of_before) -/
def lw_At (p : Program) (s : State) (m : MethodId) (meth : Method) (c : Code) (b L : Nat) (xs : Nat → Int32) : Prop :=
  p.tables.exec = Jvm.exec ∧ c.code = code ∧ meth.sig.returnType = ret ∧ c.maxLocals = 4 ∧ s.vm.findClass R_law = some m.cls ∧ (∀ w ∈ lw_tbl, w.before #[Value.ref b] s = true) ∧ va_X b L xs s s.heap ∧ b < s.heap.size ∧ meth.locks = false ∧ (Jvm.Cond.and given_1 narrow_1).before #[Value.ref b] s = true

theorem xw_len {N : Nat} {dsc : Nat → xD} {cy : Nat → ClassId} {ad : Nat → Nat} {V J : Nat → Nat → Int} {Rr : Nat → Nat → Nat} : (xw N dsc cy ad V J Rr).length = N := by simp [xw]
theorem law_x {cy : Nat → ClassId} {ad : Nat → Nat} {V J : Nat → Nat → Int} {Rr : Nat → Nat → Nat} {w : va_W} : (XW cy ad V J Rr ++ w)[0]? = some (ad 0, xE cy ad (V 0) (J 0) (Rr 0) (xdsc 0)) := by
  rw [List.getElem?_append_left (by rw [xw_len]; decide)]
  exact xw_at (by decide) rfl
theorem law_m {cy : Nat → ClassId} {ad a2 : Nat → Nat} {V J : Nat → Nat → Int} {Rr : Nat → Nat → Nat} {V2 J2 : Nat → Nat → Int} {R2 : Nat → Nat → Nat} : (XW cy ad V J Rr ++ MW cy a2 V2 J2 R2)[129]? = some (a2 0, xE cy a2 (V2 0) (J2 0) (R2 0) (mdsc 0)) := by
  rw [List.getElem?_append_right (by rw [xw_len]; decide), xw_len]
  exact xw_at (by decide) rfl
section XL9
variable {p : Program} {l : Launch} {e : Env} {s : State} {m : MethodId} {below : List Frame} {meth : Method} {c : Code} {cells slots : Nat}
variable {D : va_G} {nL : Nat} {ws : va_W} {pc : Nat} {lv : List (Nat × Value)} {st : List Value} {own : String} {TY : List (ClassId × FieldType)} {b L : Nat} {xs : Nat → Int32} {Q : State → Prop} {R : Room} {args : Array Value} {A : Nat → Prop} {H0 : Heap} {cc : ByteArray}
theorem x_slen (C : xC2 p s m args meth c D A H0 nL cc own TY) (hX : va_X b L xs s H0) (hbl : b < H0.size) (hbA : ¬ A b) (hd : decode cc pc = .ok (.arraylength, 1)) (kk : xW p l e R s m args below meth c D A H0 nL cells slots Q ws (pc + 1) lv (vI (L : Int) :: st)) : xW p l e R s m args below meth c D A H0 nL cells slots Q ws pc lv (.ref b :: st) := by
  intro H locs la hP hD hS hl
  refine va_slen C.1.1 C.1.2.1 hX hbl hbA hS hd ?_
  have := kk H locs la hP hD hS hl
  rw [vI, Int32.ofInt_eq_ofNat] at this
  exact this
theorem x_sld (C : xC2 p s m args meth c D A H0 nL cc own TY) (hX : va_X b L xs s H0) (hbl : b < H0.size) (hbA : ¬ A b) {i : Int} (hi : 0 ≤ i ∧ i < L) (hL : L < 2147483648) (hd : decode cc pc = .ok (.iaload, 1)) (kk : xW p l e R s m args below meth c D A H0 nL cells slots Q ws (pc + 1) lv (vI ((xs i.toNat).toInt) :: st)) : xW p l e R s m args below meth c D A H0 nL cells slots Q ws pc lv (vI i :: .ref b :: st) := by
  intro H locs la hP hD hS hl
  refine va_sld C.1.1 C.1.2.1 hX hbl hbA hS (xi_in hi hL) hd ?_
  rw [xi_nat ⟨by omega, by omega⟩]
  have := kk H locs la hP hD hS hl
  rw [vI, xi_of] at this
  exact this
theorem x_lend (C : xC2 p s m #[Value.ref b] meth c D (fun q => s.heap.size ≤ q) s.heap nL code own TY) (hr : meth.sig.returnType = ret) (hd : decode code pc = .ok (.ireturn, 1)) (h1 : cells ≤ 600000) (h2 : slots ≤ 7302250) : xW p l e room_1 s m #[Value.ref b] below meth c D (fun q => s.heap.size ≤ q) s.heap nL cells slots (lw_Z below #[Value.ref b] s) ws pc lv [vI 1] := by
  intro H locs la hP hD hS hl
  refine va_forget (fun q hq => hS.2.2 q hq) ?_
  refine W.widen h1 h2 ?_
  rw [vI, show Int32.ofInt 1 = 1 by decide]
  exact lw_ret C.1.1 C.1.2.1 hr C.1.2.2.2.2.2.2.2 hd
end XL9
theorem xArr {s : State} {args : Array Value} {ty : FieldType} (h : (Cond.arrayClass ty).before args s = true) (hp : va_RA s = va_RA s) : ∃ cA : ClassId, ArrOfT s cA ty ∧ s.vm.findClass ("[" ++ ty.toString) = some cA := by
  obtain ⟨cA, k, comp, h1, h2, h3⟩ := Cond.arrayClass_spec h
  exact ⟨cA, fun n z => ⟨fun k h => (by cases h), k, h2, comp, h3⟩, h1⟩
theorem xArrO {s : State} {args : Array Value} {n : String} (h : (Cond.arrayOver (.object n)).before args s = true) : ∃ cA : ClassId, ArrOfT s cA (.object n) ∧ va_RA s cA (.object n) := by
  obtain ⟨comp, cA, k, h1, h2, h3, h4, h5⟩ := Cond.arrayOver_spec h
  exact ⟨cA, fun n z => ⟨fun k h => (by cases h), k, h3, comp, h4⟩, k, comp, h3, h4, h1, h5⟩
theorem law_mem {w : Cond} (i : Nat) (h : lw_tbl[i]? = some w) : w ∈ lw_tbl := List.mem_of_getElem? h

theorem law_K {s : State} {args : Array Value} (hts : ∀ w ∈ lw_tbl, w.before args s = true) : ∃ (D : va_G) (cy : Nat → ClassId), xK D (xTY cy) s := by
  obtain ⟨c0, i0, k0⟩ := u_known (C := RX0) (T := TX0) (N := 4) (n := 4) hts (fun w h => WG_in w (wx_X0 w h)) (hts (.instantiable RX0 4) (WG_in _ wt_X0))
  obtain ⟨c1, i1, k1⟩ := u_known (C := RX1) (T := TX1) (N := 6) (n := 6) hts (fun w h => WG_in w (wx_X1 w h)) (hts (.instantiable RX1 6) (WG_in _ wt_X1))
  obtain ⟨c2, i2, k2⟩ := u_known (C := RX2) (T := TX2) (N := 17) (n := 17) hts (fun w h => WG_in w (wx_X2 w h)) (hts (.instantiable RX2 17) (WG_in _ wt_X2))
  obtain ⟨c3, i3, k3⟩ := u_known (C := RX3) (T := TX3) (N := 8) (n := 8) hts (fun w h => WG_in w (wx_X3 w h)) (hts (.instantiable RX3 8) (WG_in _ wt_X3))
  obtain ⟨c4, i4, k4⟩ := u_known (C := RX4) (T := TX4) (N := 4) (n := 4) hts (fun w h => WG_in w (wx_X4 w h)) (hts (.instantiable RX4 4) (WG_in _ wt_X4))
  obtain ⟨c5, i5, k5⟩ := u_known (C := RX5) (T := TX5) (N := 9) (n := 9) hts (fun w h => WG_in w (wx_X5 w h)) (hts (.instantiable RX5 9) (WG_in _ wt_X5))
  obtain ⟨c6, i6, k6⟩ := u_known (C := RX6) (T := TX6) (N := 6) (n := 6) hts (fun w h => WG_in w (wx_X6 w h)) (hts (.instantiable RX6 6) (WG_in _ wt_X6))
  obtain ⟨c7, i7, k7⟩ := u_known (C := RX7) (T := TX7) (N := 2) (n := 2) hts (fun w h => WG_in w (wx_X7 w h)) (hts (.instantiable RX7 2) (WG_in _ wt_X7))
  obtain ⟨c8, i8, k8⟩ := u_known (C := RX8) (T := TX8) (N := 2) (n := 2) hts (fun w h => WG_in w (wx_X8 w h)) (hts (.instantiable RX8 2) (WG_in _ wt_X8))
  obtain ⟨c9, i9, k9⟩ := u_known (C := RX9) (T := TX9) (N := 6) (n := 6) hts (fun w h => WG_in w (wx_X9 w h)) (hts (.instantiable RX9 6) (WG_in _ wt_X9))
  obtain ⟨c10, i10, k10⟩ := u_known (C := RX10) (T := TX10) (N := 8) (n := 8) hts (fun w h => WG_in w (wx_X10 w h)) (hts (.instantiable RX10 8) (WG_in _ wt_X10))
  obtain ⟨c11, i11, k11⟩ := u_known (C := RX11) (T := TX11) (N := 12) (n := 12) hts (fun w h => WG_in w (wx_X11 w h)) (hts (.instantiable RX11 12) (WG_in _ wt_X11))
  obtain ⟨c12, i12, k12⟩ := u_known (C := RX12) (T := TX12) (N := 54) (n := 54) hts (fun w h => WG_in w (wx_X12 w h)) (hts (.instantiable RX12 54) (WG_in _ wt_X12))
  obtain ⟨y0, a0, f0⟩ := xArr (hts (.arrayClass .int) (WG_in _ wa_int)) rfl
  obtain ⟨y1, a1, f1⟩ := xArr (hts (.arrayClass .long) (WG_in _ wa_long)) rfl
  obtain ⟨y2, a2, f2⟩ := xArr (hts (.arrayClass .byte) (WG_in _ wa_byte)) rfl
  obtain ⟨y3, a3, f3⟩ := xArr (hts (.arrayClass .char) (WG_in _ wa_char)) rfl
  have o4 : (Cond.arrayOver (.object RX5)).before args s = true := hts _ (law_mem 138 (by decide +kernel))
  obtain ⟨y4, a4, f4⟩ := xArrO o4
  have o5 : (Cond.arrayOver (.object RX4)).before args s = true := hts _ (law_mem 140 (by decide +kernel))
  obtain ⟨y5, a5, f5⟩ := xArrO o5
  have o6 : (Cond.arrayOver (.object RX9)).before args s = true := hts _ (law_mem 330 (by decide +kernel))
  obtain ⟨y6, a6, f6⟩ := xArrO o6
  refine ⟨(fun k => if k = 0 then c0 else if k = 1 then c1 else if k = 2 then c2 else if k = 3 then c3 else if k = 4 then c4 else if k = 5 then c5 else if k = 6 then c6 else if k = 7 then c7 else if k = 8 then c8 else if k = 9 then c9 else if k = 10 then c10 else if k = 11 then c11 else c12, fun k => if k = 0 then i0 else if k = 1 then i1 else if k = 2 then i2 else if k = 3 then i3 else if k = 4 then i4 else if k = 5 then i5 else if k = 6 then i6 else if k = 7 then i7 else if k = 8 then i8 else if k = 9 then i9 else if k = 10 then i10 else if k = 11 then i11 else i12), fun k => if k = 0 then y0 else if k = 1 then y1 else if k = 2 then y2 else if k = 3 then y3 else if k = 4 then y4 else if k = 5 then y5 else y6, ⟨?_, ?_⟩, ?_, ?_⟩
  · intro k q hq
    match k, hq with
    | 0, hq => cases hq; exact k0
    | 1, hq => cases hq; exact k1
    | 2, hq => cases hq; exact k2
    | 3, hq => cases hq; exact k3
    | 4, hq => cases hq; exact k4
    | 5, hq => cases hq; exact k5
    | 6, hq => cases hq; exact k6
    | 7, hq => cases hq; exact k7
    | 8, hq => cases hq; exact k8
    | 9, hq => cases hq; exact k9
    | 10, hq => cases hq; exact k10
    | 11, hq => cases hq; exact k11
    | 12, hq => cases hq; exact k12
    | k + 13, hq => simp [vwCl] at hq
  · intro k q hq
    match k, hq with
    | 0, hq => cases hq; exact ⟨a0, f0⟩
    | 1, hq => cases hq; exact ⟨a1, f1⟩
    | 2, hq => cases hq; exact ⟨a2, f2⟩
    | 3, hq => cases hq; exact ⟨a3, f3⟩
    | 4, hq => cases hq; exact ⟨a4, f4⟩
    | 5, hq => cases hq; exact ⟨a5, f5⟩
    | 6, hq => cases hq; exact ⟨a6, f6⟩
    | k + 7, hq => simp [xTY] at hq
  · intro C hC
    simp only [List.mem_cons, List.not_mem_nil, or_false] at hC
    rcases hC with rfl | rfl | rfl
    · exact va_AO.of o4
    · exact va_AO.of o5
    · exact va_AO.of o6
  · intro q hq
    simp only [xNst, List.mem_cons, List.not_mem_nil, or_false] at hq
    rcases hq with rfl | rfl | rfl | rfl | rfl | rfl | rfl | rfl | rfl | rfl
    · exact va_Nw.of rfl (hts _ (law_mem 278 (by decide +kernel)))
    · exact va_Nw.of rfl (hts _ (law_mem 405 (by decide +kernel)))
    · exact va_Nw.of rfl (hts _ (law_mem 503 (by decide +kernel)))
    · exact va_Nw.of rfl (hts _ (law_mem 298 (by decide +kernel)))
    · exact va_Nw.of rfl (hts _ (law_mem 333 (by decide +kernel)))
    · exact va_Nw.of rfl (hts _ (law_mem 142 (by decide +kernel)))
    · exact va_Nw.of rfl (hts _ (law_mem 200 (by decide +kernel)))
    · exact va_Nw.of rfl (hts _ (law_mem 585 (by decide +kernel)))
    · exact va_Nw.of rfl (hts _ (law_mem 357 (by decide +kernel)))
    · exact va_Nw.of rfl (hts _ (law_mem 473 (by decide +kernel)))
/-- what holds between two calls -/
def LI (Vx Jx : Nat → Nat → Int) (Rx : Nat → Nat → Nat) (Vm Jm : Nat → Nat → Int) (_ : Nat → Nat → Nat) : Prop := XI Vx Vx ∧ VJ Jx ∧ XR Rx ∧ MI Vm Vm ∧ VJ Jm ∧ WP Vm ∧ WR Rx Vx Vm
theorem WP.k53 {G : Nat → Nat → Int} {a : Int} (h : WP G) : WP (up2 G 0 53 a) := by
  intro q hq hh
  rw [up2_n _ _ (Or.inl (by omega))] at hh
  have k := h q hq hh
  unfold xCl at k ⊢
  rw [up0r (by omega), up0r (by omega), up0r (by omega), up0r (by omega)]
  exact k
theorem XR.into61 {Rr : Nat → Nat → Nat} (h : XR Rr) : 61 ≤ Rr 72 1 := by
  obtain ⟨t, e, ht⟩ := h.into
  rw [e]
  rcases ht with rfl | rfl | rfl | rfl | rfl | rfl <;> decide
theorem XR.into93 {Rr : Nat → Nat → Nat} (h : XR Rr) : Rr 72 1 ≤ 93 := by
  obtain ⟨t, e, ht⟩ := h.into
  rw [e]
  rcases ht with rfl | rfl | rfl | rfl | rfl | rfl <;> decide
theorem hd_yX11_alone : yX11_alone.cls ≠ "java/lang/invoke/MethodHandle" ∧ yX11_alone.cls ≠ "java/lang/invoke/VarHandle" ∧ (parseMethodDescriptor yX11_alone.desc).map (fun d => d.parameters.length) = some 2 := by decide +kernel
theorem hd_yX11_can : yX11_can.cls ≠ "java/lang/invoke/MethodHandle" ∧ yX11_can.cls ≠ "java/lang/invoke/VarHandle" ∧ (parseMethodDescriptor yX11_can.desc).map (fun d => d.parameters.length) = some 4 := by decide +kernel
theorem hd_yX11_card : yX11_card.cls ≠ "java/lang/invoke/MethodHandle" ∧ yX11_card.cls ≠ "java/lang/invoke/VarHandle" ∧ (parseMethodDescriptor yX11_card.desc).map (fun d => d.parameters.length) = some 2 := by decide +kernel
theorem hd_yX11_chance : yX11_chance.cls ≠ "java/lang/invoke/MethodHandle" ∧ yX11_chance.cls ≠ "java/lang/invoke/VarHandle" ∧ (parseMethodDescriptor yX11_chance.desc).map (fun d => d.parameters.length) = some 4 := by decide +kernel
theorem hd_yX11_check : yX11_check.cls ≠ "java/lang/invoke/MethodHandle" ∧ yX11_check.cls ≠ "java/lang/invoke/VarHandle" ∧ (parseMethodDescriptor yX11_check.desc).map (fun d => d.parameters.length) = some 2 := by decide +kernel
theorem hd_yX11_comes : yX11_comes.cls ≠ "java/lang/invoke/MethodHandle" ∧ yX11_comes.cls ≠ "java/lang/invoke/VarHandle" ∧ (parseMethodDescriptor yX11_comes.desc).map (fun d => d.parameters.length) = some 3 := by decide +kernel
theorem hd_yX11_count : yX11_count.cls ≠ "java/lang/invoke/MethodHandle" ∧ yX11_count.cls ≠ "java/lang/invoke/VarHandle" ∧ (parseMethodDescriptor yX11_count.desc).map (fun d => d.parameters.length) = some 1 := by decide +kernel
theorem hd_yX11_days : yX11_days.cls ≠ "java/lang/invoke/MethodHandle" ∧ yX11_days.cls ≠ "java/lang/invoke/VarHandle" ∧ (parseMethodDescriptor yX11_days.desc).map (fun d => d.parameters.length) = some 1 := by decide +kernel
theorem hd_yX11_exactly : yX11_exactly.cls ≠ "java/lang/invoke/MethodHandle" ∧ yX11_exactly.cls ≠ "java/lang/invoke/VarHandle" ∧ (parseMethodDescriptor yX11_exactly.desc).map (fun d => d.parameters.length) = some 4 := by decide +kernel
theorem hd_yX11_feed : yX11_feed.cls ≠ "java/lang/invoke/MethodHandle" ∧ yX11_feed.cls ≠ "java/lang/invoke/VarHandle" ∧ (parseMethodDescriptor yX11_feed.desc).map (fun d => d.parameters.length) = some 5 := by decide +kernel
theorem hd_yX11_few : yX11_few.cls ≠ "java/lang/invoke/MethodHandle" ∧ yX11_few.cls ≠ "java/lang/invoke/VarHandle" ∧ (parseMethodDescriptor yX11_few.desc).map (fun d => d.parameters.length) = some 4 := by decide +kernel
theorem hd_yX11_gives : yX11_gives.cls ≠ "java/lang/invoke/MethodHandle" ∧ yX11_gives.cls ≠ "java/lang/invoke/VarHandle" ∧ (parseMethodDescriptor yX11_gives.desc).map (fun d => d.parameters.length) = some 2 := by decide +kernel
theorem hd_yX11_keep : yX11_keep.cls ≠ "java/lang/invoke/MethodHandle" ∧ yX11_keep.cls ≠ "java/lang/invoke/VarHandle" ∧ (parseMethodDescriptor yX11_keep.desc).map (fun d => d.parameters.length) = some 0 := by decide +kernel
theorem hd_yX11_lasts : yX11_lasts.cls ≠ "java/lang/invoke/MethodHandle" ∧ yX11_lasts.cls ≠ "java/lang/invoke/VarHandle" ∧ (parseMethodDescriptor yX11_lasts.desc).map (fun d => d.parameters.length) = some 2 := by decide +kernel
theorem hd_yX11_law : yX11_law.cls ≠ "java/lang/invoke/MethodHandle" ∧ yX11_law.cls ≠ "java/lang/invoke/VarHandle" ∧ (parseMethodDescriptor yX11_law.desc).map (fun d => d.parameters.length) = some 1 := by decide +kernel
theorem hd_yX11_movesOut : yX11_movesOut.cls ≠ "java/lang/invoke/MethodHandle" ∧ yX11_movesOut.cls ≠ "java/lang/invoke/VarHandle" ∧ (parseMethodDescriptor yX11_movesOut.desc).map (fun d => d.parameters.length) = some 4 := by decide +kernel
theorem hd_yX11_needs : yX11_needs.cls ≠ "java/lang/invoke/MethodHandle" ∧ yX11_needs.cls ≠ "java/lang/invoke/VarHandle" ∧ (parseMethodDescriptor yX11_needs.desc).map (fun d => d.parameters.length) = some 2 := by decide +kernel
theorem hd_yX11_person : yX11_person.cls ≠ "java/lang/invoke/MethodHandle" ∧ yX11_person.cls ≠ "java/lang/invoke/VarHandle" ∧ (parseMethodDescriptor yX11_person.desc).map (fun d => d.parameters.length) = some 3 := by decide +kernel
theorem hd_yX11_plant : yX11_plant.cls ≠ "java/lang/invoke/MethodHandle" ∧ yX11_plant.cls ≠ "java/lang/invoke/VarHandle" ∧ (parseMethodDescriptor yX11_plant.desc).map (fun d => d.parameters.length) = some 4 := by decide +kernel
theorem hd_yX11_plantIs : yX11_plantIs.cls ≠ "java/lang/invoke/MethodHandle" ∧ yX11_plantIs.cls ≠ "java/lang/invoke/VarHandle" ∧ (parseMethodDescriptor yX11_plantIs.desc).map (fun d => d.parameters.length) = some 2 := by decide +kernel
theorem hd_yX11_pot : yX11_pot.cls ≠ "java/lang/invoke/MethodHandle" ∧ yX11_pot.cls ≠ "java/lang/invoke/VarHandle" ∧ (parseMethodDescriptor yX11_pot.desc).map (fun d => d.parameters.length) = some 4 := by decide +kernel
theorem hd_yX11_pour : yX11_pour.cls ≠ "java/lang/invoke/MethodHandle" ∧ yX11_pour.cls ≠ "java/lang/invoke/VarHandle" ∧ (parseMethodDescriptor yX11_pour.desc).map (fun d => d.parameters.length) = some 2 := by decide +kernel
theorem hd_yX11_rota : yX11_rota.cls ≠ "java/lang/invoke/MethodHandle" ∧ yX11_rota.cls ≠ "java/lang/invoke/VarHandle" ∧ (parseMethodDescriptor yX11_rota.desc).map (fun d => d.parameters.length) = some 3 := by decide +kernel
theorem hd_yX11_rule : yX11_rule.cls ≠ "java/lang/invoke/MethodHandle" ∧ yX11_rule.cls ≠ "java/lang/invoke/VarHandle" ∧ (parseMethodDescriptor yX11_rule.desc).map (fun d => d.parameters.length) = some 2 := by decide +kernel
theorem hd_yX11_ruleFor : yX11_ruleFor.cls ≠ "java/lang/invoke/MethodHandle" ∧ yX11_ruleFor.cls ≠ "java/lang/invoke/VarHandle" ∧ (parseMethodDescriptor yX11_ruleFor.desc).map (fun d => d.parameters.length) = some 5 := by decide +kernel
theorem hd_yX11_seed : yX11_seed.cls ≠ "java/lang/invoke/MethodHandle" ∧ yX11_seed.cls ≠ "java/lang/invoke/VarHandle" ∧ (parseMethodDescriptor yX11_seed.desc).map (fun d => d.parameters.length) = some 1 := by decide +kernel
theorem hd_yX11_share : yX11_share.cls ≠ "java/lang/invoke/MethodHandle" ∧ yX11_share.cls ≠ "java/lang/invoke/VarHandle" ∧ (parseMethodDescriptor yX11_share.desc).map (fun d => d.parameters.length) = some 2 := by decide +kernel
theorem hd_yX11_spread : yX11_spread.cls ≠ "java/lang/invoke/MethodHandle" ∧ yX11_spread.cls ≠ "java/lang/invoke/VarHandle" ∧ (parseMethodDescriptor yX11_spread.desc).map (fun d => d.parameters.length) = some 2 := by decide +kernel
theorem hd_yX11_toAsk : yX11_toAsk.cls ≠ "java/lang/invoke/MethodHandle" ∧ yX11_toAsk.cls ≠ "java/lang/invoke/VarHandle" ∧ (parseMethodDescriptor yX11_toAsk.desc).map (fun d => d.parameters.length) = some 4 := by decide +kernel
theorem hd_yX11_tried : yX11_tried.cls ≠ "java/lang/invoke/MethodHandle" ∧ yX11_tried.cls ≠ "java/lang/invoke/VarHandle" ∧ (parseMethodDescriptor yX11_tried.desc).map (fun d => d.parameters.length) = some 2 := by decide +kernel
theorem hd_yX11_undo : yX11_undo.cls ≠ "java/lang/invoke/MethodHandle" ∧ yX11_undo.cls ≠ "java/lang/invoke/VarHandle" ∧ (parseMethodDescriptor yX11_undo.desc).map (fun d => d.parameters.length) = some 0 := by decide +kernel
theorem hd_yX11_week : yX11_week.cls ≠ "java/lang/invoke/MethodHandle" ∧ yX11_week.cls ≠ "java/lang/invoke/VarHandle" ∧ (parseMethodDescriptor yX11_week.desc).map (fun d => d.parameters.length) = some 3 := by decide +kernel
theorem hd_yX11_whoDid : yX11_whoDid.cls ≠ "java/lang/invoke/MethodHandle" ∧ yX11_whoDid.cls ≠ "java/lang/invoke/VarHandle" ∧ (parseMethodDescriptor yX11_whoDid.desc).map (fun d => d.parameters.length) = some 5 := by decide +kernel
theorem hd_yX12_alone : yX12_alone.cls ≠ "java/lang/invoke/MethodHandle" ∧ yX12_alone.cls ≠ "java/lang/invoke/VarHandle" ∧ (parseMethodDescriptor yX12_alone.desc).map (fun d => d.parameters.length) = some 2 := by decide +kernel
theorem hd_yX12_can : yX12_can.cls ≠ "java/lang/invoke/MethodHandle" ∧ yX12_can.cls ≠ "java/lang/invoke/VarHandle" ∧ (parseMethodDescriptor yX12_can.desc).map (fun d => d.parameters.length) = some 4 := by decide +kernel
theorem hd_yX12_card : yX12_card.cls ≠ "java/lang/invoke/MethodHandle" ∧ yX12_card.cls ≠ "java/lang/invoke/VarHandle" ∧ (parseMethodDescriptor yX12_card.desc).map (fun d => d.parameters.length) = some 2 := by decide +kernel
theorem hd_yX12_chance : yX12_chance.cls ≠ "java/lang/invoke/MethodHandle" ∧ yX12_chance.cls ≠ "java/lang/invoke/VarHandle" ∧ (parseMethodDescriptor yX12_chance.desc).map (fun d => d.parameters.length) = some 4 := by decide +kernel
theorem hd_yX12_check : yX12_check.cls ≠ "java/lang/invoke/MethodHandle" ∧ yX12_check.cls ≠ "java/lang/invoke/VarHandle" ∧ (parseMethodDescriptor yX12_check.desc).map (fun d => d.parameters.length) = some 2 := by decide +kernel
theorem hd_yX12_comes : yX12_comes.cls ≠ "java/lang/invoke/MethodHandle" ∧ yX12_comes.cls ≠ "java/lang/invoke/VarHandle" ∧ (parseMethodDescriptor yX12_comes.desc).map (fun d => d.parameters.length) = some 3 := by decide +kernel
theorem hd_yX12_count : yX12_count.cls ≠ "java/lang/invoke/MethodHandle" ∧ yX12_count.cls ≠ "java/lang/invoke/VarHandle" ∧ (parseMethodDescriptor yX12_count.desc).map (fun d => d.parameters.length) = some 1 := by decide +kernel
theorem hd_yX12_days : yX12_days.cls ≠ "java/lang/invoke/MethodHandle" ∧ yX12_days.cls ≠ "java/lang/invoke/VarHandle" ∧ (parseMethodDescriptor yX12_days.desc).map (fun d => d.parameters.length) = some 1 := by decide +kernel
theorem hd_yX12_exactly : yX12_exactly.cls ≠ "java/lang/invoke/MethodHandle" ∧ yX12_exactly.cls ≠ "java/lang/invoke/VarHandle" ∧ (parseMethodDescriptor yX12_exactly.desc).map (fun d => d.parameters.length) = some 4 := by decide +kernel
theorem hd_yX12_feed : yX12_feed.cls ≠ "java/lang/invoke/MethodHandle" ∧ yX12_feed.cls ≠ "java/lang/invoke/VarHandle" ∧ (parseMethodDescriptor yX12_feed.desc).map (fun d => d.parameters.length) = some 5 := by decide +kernel
theorem hd_yX12_few : yX12_few.cls ≠ "java/lang/invoke/MethodHandle" ∧ yX12_few.cls ≠ "java/lang/invoke/VarHandle" ∧ (parseMethodDescriptor yX12_few.desc).map (fun d => d.parameters.length) = some 4 := by decide +kernel
theorem hd_yX12_gives : yX12_gives.cls ≠ "java/lang/invoke/MethodHandle" ∧ yX12_gives.cls ≠ "java/lang/invoke/VarHandle" ∧ (parseMethodDescriptor yX12_gives.desc).map (fun d => d.parameters.length) = some 2 := by decide +kernel
theorem hd_yX12_keep : yX12_keep.cls ≠ "java/lang/invoke/MethodHandle" ∧ yX12_keep.cls ≠ "java/lang/invoke/VarHandle" ∧ (parseMethodDescriptor yX12_keep.desc).map (fun d => d.parameters.length) = some 0 := by decide +kernel
theorem hd_yX12_lasts : yX12_lasts.cls ≠ "java/lang/invoke/MethodHandle" ∧ yX12_lasts.cls ≠ "java/lang/invoke/VarHandle" ∧ (parseMethodDescriptor yX12_lasts.desc).map (fun d => d.parameters.length) = some 2 := by decide +kernel
theorem hd_yX12_law : yX12_law.cls ≠ "java/lang/invoke/MethodHandle" ∧ yX12_law.cls ≠ "java/lang/invoke/VarHandle" ∧ (parseMethodDescriptor yX12_law.desc).map (fun d => d.parameters.length) = some 1 := by decide +kernel
theorem hd_yX12_movesOut : yX12_movesOut.cls ≠ "java/lang/invoke/MethodHandle" ∧ yX12_movesOut.cls ≠ "java/lang/invoke/VarHandle" ∧ (parseMethodDescriptor yX12_movesOut.desc).map (fun d => d.parameters.length) = some 4 := by decide +kernel
theorem hd_yX12_needs : yX12_needs.cls ≠ "java/lang/invoke/MethodHandle" ∧ yX12_needs.cls ≠ "java/lang/invoke/VarHandle" ∧ (parseMethodDescriptor yX12_needs.desc).map (fun d => d.parameters.length) = some 2 := by decide +kernel
theorem hd_yX12_person : yX12_person.cls ≠ "java/lang/invoke/MethodHandle" ∧ yX12_person.cls ≠ "java/lang/invoke/VarHandle" ∧ (parseMethodDescriptor yX12_person.desc).map (fun d => d.parameters.length) = some 3 := by decide +kernel
theorem hd_yX12_plant : yX12_plant.cls ≠ "java/lang/invoke/MethodHandle" ∧ yX12_plant.cls ≠ "java/lang/invoke/VarHandle" ∧ (parseMethodDescriptor yX12_plant.desc).map (fun d => d.parameters.length) = some 4 := by decide +kernel
theorem hd_yX12_plantIs : yX12_plantIs.cls ≠ "java/lang/invoke/MethodHandle" ∧ yX12_plantIs.cls ≠ "java/lang/invoke/VarHandle" ∧ (parseMethodDescriptor yX12_plantIs.desc).map (fun d => d.parameters.length) = some 2 := by decide +kernel
theorem hd_yX12_pot : yX12_pot.cls ≠ "java/lang/invoke/MethodHandle" ∧ yX12_pot.cls ≠ "java/lang/invoke/VarHandle" ∧ (parseMethodDescriptor yX12_pot.desc).map (fun d => d.parameters.length) = some 4 := by decide +kernel
theorem hd_yX12_pour : yX12_pour.cls ≠ "java/lang/invoke/MethodHandle" ∧ yX12_pour.cls ≠ "java/lang/invoke/VarHandle" ∧ (parseMethodDescriptor yX12_pour.desc).map (fun d => d.parameters.length) = some 2 := by decide +kernel
theorem hd_yX12_rota : yX12_rota.cls ≠ "java/lang/invoke/MethodHandle" ∧ yX12_rota.cls ≠ "java/lang/invoke/VarHandle" ∧ (parseMethodDescriptor yX12_rota.desc).map (fun d => d.parameters.length) = some 3 := by decide +kernel
theorem hd_yX12_rule : yX12_rule.cls ≠ "java/lang/invoke/MethodHandle" ∧ yX12_rule.cls ≠ "java/lang/invoke/VarHandle" ∧ (parseMethodDescriptor yX12_rule.desc).map (fun d => d.parameters.length) = some 2 := by decide +kernel
theorem hd_yX12_ruleFor : yX12_ruleFor.cls ≠ "java/lang/invoke/MethodHandle" ∧ yX12_ruleFor.cls ≠ "java/lang/invoke/VarHandle" ∧ (parseMethodDescriptor yX12_ruleFor.desc).map (fun d => d.parameters.length) = some 5 := by decide +kernel
theorem hd_yX12_seed : yX12_seed.cls ≠ "java/lang/invoke/MethodHandle" ∧ yX12_seed.cls ≠ "java/lang/invoke/VarHandle" ∧ (parseMethodDescriptor yX12_seed.desc).map (fun d => d.parameters.length) = some 1 := by decide +kernel
theorem hd_yX12_share : yX12_share.cls ≠ "java/lang/invoke/MethodHandle" ∧ yX12_share.cls ≠ "java/lang/invoke/VarHandle" ∧ (parseMethodDescriptor yX12_share.desc).map (fun d => d.parameters.length) = some 2 := by decide +kernel
theorem hd_yX12_spread : yX12_spread.cls ≠ "java/lang/invoke/MethodHandle" ∧ yX12_spread.cls ≠ "java/lang/invoke/VarHandle" ∧ (parseMethodDescriptor yX12_spread.desc).map (fun d => d.parameters.length) = some 2 := by decide +kernel
theorem hd_yX12_toAsk : yX12_toAsk.cls ≠ "java/lang/invoke/MethodHandle" ∧ yX12_toAsk.cls ≠ "java/lang/invoke/VarHandle" ∧ (parseMethodDescriptor yX12_toAsk.desc).map (fun d => d.parameters.length) = some 4 := by decide +kernel
theorem hd_yX12_tried : yX12_tried.cls ≠ "java/lang/invoke/MethodHandle" ∧ yX12_tried.cls ≠ "java/lang/invoke/VarHandle" ∧ (parseMethodDescriptor yX12_tried.desc).map (fun d => d.parameters.length) = some 2 := by decide +kernel
theorem hd_yX12_undo : yX12_undo.cls ≠ "java/lang/invoke/MethodHandle" ∧ yX12_undo.cls ≠ "java/lang/invoke/VarHandle" ∧ (parseMethodDescriptor yX12_undo.desc).map (fun d => d.parameters.length) = some 0 := by decide +kernel
theorem hd_yX12_week : yX12_week.cls ≠ "java/lang/invoke/MethodHandle" ∧ yX12_week.cls ≠ "java/lang/invoke/VarHandle" ∧ (parseMethodDescriptor yX12_week.desc).map (fun d => d.parameters.length) = some 3 := by decide +kernel
theorem hd_yX12_whoDid : yX12_whoDid.cls ≠ "java/lang/invoke/MethodHandle" ∧ yX12_whoDid.cls ≠ "java/lang/invoke/VarHandle" ∧ (parseMethodDescriptor yX12_whoDid.desc).map (fun d => d.parameters.length) = some 5 := by decide +kernel
