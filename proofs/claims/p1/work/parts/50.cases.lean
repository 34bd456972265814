-- ===== end of PART A; then your names; then what follows =====
/-! THE CLAIM OUT OF ONE WALK OF THE LAW'S BODY. Your part is whole_start (and what it stands on); all else here is the same for every law, but numbers. -/
def R_law : String := "LandingTreeLaw"
def lw_P (b : Addr) (xs : List Int32) (args : Array Value) (s : State) : Prop := args = #[.ref b] ∧ s.IntsAt b xs ∧ xs.length ≤ 6 ∧ (Jvm.Cond.and given_1 narrow_1).before args s = true
def lw_Q (_ : Array Value) (s : State) (o : Outcome) (t : State) : Prop := o = .returned (some (.int 1)) ∧ Framed s o t [] 600000 7302250
def lw_Z (below : List Frame) (a : Array Value) (s : State) : State → Prop := fun t => ∃ o, t.status = .running ∧ Ended t below o ∧ lw_Q a s o t
/-- the law's own end, with 1 on the stack, nothing written that was there before, its room as the claim has it -/
theorem lw_ret {p : Program} {l : Launch} {e : Env} {s : State} {m : MethodId} {below : List Frame} {meth : Method} {c : Code} {b : Nat} (hx : p.tables.exec = Jvm.exec) (hb : c.code = code) (hr : meth.sig.returnType = ret) (hlocks : meth.locks = false) {pc : Nat} {H : Heap} {ls : Array Slot} (hdg : decode code pc = .ok (.ireturn, 1)) : W p l e room_1 s m #[Value.ref b] below meth c H [] 600000 7302250 (lw_Z below #[Value.ref b] s) (F0 m pc ls [.int 1]) := by
  intro T hT X
  obtain ⟨fs, hret, hrun, hended, hW, hframe⟩ := X.leave (v := some (.int 1)) (hlocks := hlocks) (fun h => by rw [hr] at h; cases h)
  have hmeth' : T.vm.method? m = some meth := X.method'
  refine ⟨T.setFrames fs, ?_, .returned (some (.int 1)), hrun, hended, rfl, ⟨_, rfl⟩, hW, hframe⟩
  jvm_step X.here [X.here.top, hx, hb, hdg, hmeth', hr, ret, narrow_b1]
  (try refine ⟨rfl, ?_⟩); (try refine ⟨rfl, ?_⟩)
  first | (intro acts; rw [hret _ acts rfl rfl rfl]) | rw [hret _ _ rfl rfl rfl]
  exact Steps.refl _
/-- what holds at the law's entry: the machine, the code, the tables' words (any of lw_tbl by 'hts w (by decide +kernel)'), the script of L ints xs at the cell b, what the Statement gives of the start (any of its parts by flat_of_before) -/
def lw_At (p : Program) (s : State) (m : MethodId) (meth : Method) (c : Code) (b L : Nat) (xs : Nat → Int32) : Prop :=
  p.tables.exec = Jvm.exec ∧ c.code = code ∧ meth.sig.returnType = ret ∧ c.maxLocals = 4 ∧ s.vm.findClass R_law = some m.cls ∧ (∀ w ∈ lw_tbl, w.before #[Value.ref b] s = true) ∧ va_X b L xs s s.heap ∧ b < s.heap.size ∧ meth.locks = false ∧ (Jvm.Cond.and given_1 narrow_1).before #[Value.ref b] s = true

theorem X_VR : VR V0x := by
  intro i k
  unfold V0x
  repeat' split
  all_goals decide
theorem X_VJ : VJ J0 := fun _ _ => (by decide : R64 0)
theorem M_VR : VR V0m := by
  intro i k
  unfold V0m
  repeat' split
  all_goals decide
theorem X_4 {P : Nat → Prop} (h0 : P 0) (h1 : P 1) (h2 : P 2) (h3 : P 3) : ∀ q, q < 4 → P q := by
  intro q hq
  have : q = 0 ∨ q = 1 ∨ q = 2 ∨ q = 3 := by omega
  rcases this with rfl | rfl | rfl | rfl <;> assumption
theorem X_8 {P : Nat → Prop} (h0 : P 0) (h1 : P 1) (h2 : P 2) (h3 : P 3) (h4 : P 4) (h5 : P 5) (h6 : P 6) (h7 : P 7) : ∀ q, q < 8 → P q := by
  intro q hq
  have : q = 0 ∨ q = 1 ∨ q = 2 ∨ q = 3 ∨ q = 4 ∨ q = 5 ∨ q = 6 ∨ q = 7 := by omega
  rcases this with rfl | rfl | rfl | rfl | rfl | rfl | rfl | rfl <;> assumption
theorem X_np : NPl V0x 1 := X_4 (P := fun q => V0x (1 + 3 + 2 * q) 0 = 0) rfl rfl rfl rfl
theorem X_ne : NPe V0x 1 := X_8 (P := fun q => V0x (1 + 11 + 1 * q) 0 = 0) rfl rfl rfl rfl rfl rfl rfl rfl
theorem X_gv : ∀ q, q < 8 → V0x (1 + 11 + 1 * q) 3 = 0 := X_8 (P := fun q => V0x (1 + 11 + 1 * q) 3 = 0) rfl rfl rfl rfl rfl rfl rfl rfl
theorem X_wt : ∀ q, q < 4 → V0x (1 + 3 + 2 * q) 2 = 0 := X_4 (P := fun q => V0x (1 + 3 + 2 * q) 2 = 0) rfl rfl rfl rfl
theorem X_bp : BPl V0x 1 := X_4 (P := fun q => isB (V0x (1 + 3 + 2 * q) 0) ∧ isB (V0x (1 + 3 + 2 * q) 6)) ⟨Or.inl rfl, Or.inl rfl⟩ ⟨Or.inl rfl, Or.inl rfl⟩ ⟨Or.inl rfl, Or.inl rfl⟩ ⟨Or.inl rfl, Or.inl rfl⟩
theorem X_be : BPe V0x 1 := X_8 (P := fun q => isB (V0x (1 + 11 + 1 * q) 0)) (Or.inl rfl) (Or.inl rfl) (Or.inl rfl) (Or.inl rfl) (Or.inl rfl) (Or.inl rfl) (Or.inl rfl) (Or.inl rfl)
theorem X_tl : V0x 58 1 = 0 := rfl
theorem X_kp : V0x 0 3 = 0 := rfl
theorem X_cl : ∀ t, isTx t → V0x t 5 = 0 := by
  intro t ht
  rcases ht with rfl | rfl | rfl | rfl | rfl | rfl <;> rfl
theorem X_lw : R0x 60 0 = 61 := rfl
theorem X_ru : ∀ q, q < 4 → R0x 66 q = 78 + 5 * q := fun _ _ => rfl
theorem X_dy : V0x 1 3 = 0 := rfl
theorem X_xx : V0x 1 4 = 1 := rfl
theorem X_to : V0x 1 2 = 0 := rfl
theorem X_co : ∀ k, V0x 67 k = 0 := fun _ => rfl
theorem X_wo : ∀ k, V0x 68 k = 0 := fun _ => rfl
theorem M_76 : V0m 1 76 = 0 := rfl
theorem M_77 : V0m 1 77 = 0 := rfl
theorem M_78 : V0m 1 78 = 0 := rfl
theorem M_79 : V0m 1 79 = 0 := rfl
theorem M_80 : V0m 1 80 = 1 := rfl
theorem M_tp : V0m 0 4 = 0 := rfl
theorem M_kp : V0m 0 53 = 0 := rfl
theorem M_cm : ∀ k, V0m 12 k = 0 := fun _ => rfl
theorem M_co : ∀ k, V0m 31 k = 0 := fun _ => rfl
theorem M_wo : ∀ k, V0m 32 k = 0 := fun _ => rfl
theorem xw_len {N : Nat} {dsc : Nat → xD} {cy : Nat → ClassId} {ad : Nat → Nat} {V J : Nat → Nat → Int} {Rr : Nat → Nat → Nat} : (xw N dsc cy ad V J Rr).length = N := by simp [xw]
theorem law_x {cy : Nat → ClassId} {ad : Nat → Nat} {V J : Nat → Nat → Int} {Rr : Nat → Nat → Nat} {w : va_W} : (XW cy ad V J Rr ++ w)[0]? = some (ad 0, xE cy ad (V 0) (J 0) (Rr 0) (xdsc 0)) := by
  rw [List.getElem?_append_left (by rw [xw_len]; decide)]
  exact xw_at (by decide) rfl
theorem law_m {cy : Nat → ClassId} {ad a2 : Nat → Nat} {V J : Nat → Nat → Int} {Rr : Nat → Nat → Nat} {V2 J2 : Nat → Nat → Int} {R2 : Nat → Nat → Nat} : (XW cy ad V J Rr ++ MW cy a2 V2 J2 R2)[129]? = some (a2 0, xE cy a2 (V2 0) (J2 0) (R2 0) (mdsc 0)) := by
  rw [List.getElem?_append_right (by rw [xw_len]; decide), xw_len]
  exact xw_at (by decide) rfl
section XL9
variable {p : Program} {l : Launch} {e : Env} {s : State} {m : MethodId} {below : List Frame} {meth : Method} {c : Code} {cells slots : Nat}
variable {D : va_G} {nL : Nat} {ws : va_W} {pc : Nat} {lv : List (Nat × Value)} {st : List Value} {own : String} {TY : List (ClassId × FieldType)} {b L : Nat} {xs : Nat → Int32} {Q : State → Prop} {R : Room} {args : Array Value} {A : Nat → Prop} {H0 : Heap} {cc : ByteArray}
theorem x_slen (C : xC2 p s m args meth c D A H0 nL cc own TY) (hX : va_X b L xs s H0) (hbl : b < H0.size) (hbA : ¬ A b) (hd : decode cc pc = .ok (.arraylength, 1)) (kk : xW p l e R s m args below meth c D A H0 nL cells slots Q ws (pc + 1) lv (vI (L : Int) :: st)) : xW p l e R s m args below meth c D A H0 nL cells slots Q ws pc lv (.ref b :: st) := by
  intro H locs la hP hD hS hl
  refine va_slen C.1.1 C.1.2.1 hX hbl hbA hS hd ?_
  have := kk H locs la hP hD hS hl
  rw [vI, Int32.ofInt_eq_ofNat] at this
  exact this
theorem x_sld (C : xC2 p s m args meth c D A H0 nL cc own TY) (hX : va_X b L xs s H0) (hbl : b < H0.size) (hbA : ¬ A b) {i : Int} (hi : 0 ≤ i ∧ i < L) (hL : L < 2147483648) (hd : decode cc pc = .ok (.iaload, 1)) (kk : xW p l e R s m args below meth c D A H0 nL cells slots Q ws (pc + 1) lv (vI ((xs i.toNat).toInt) :: st)) : xW p l e R s m args below meth c D A H0 nL cells slots Q ws pc lv (vI i :: .ref b :: st) := by
  intro H locs la hP hD hS hl
  refine va_sld C.1.1 C.1.2.1 hX hbl hbA hS (xi_in hi hL) hd ?_
  rw [xi_nat ⟨by omega, by omega⟩]
  have := kk H locs la hP hD hS hl
  rw [vI, xi_of] at this
  exact this
theorem x_lend (C : xC2 p s m #[Value.ref b] meth c D (fun q => s.heap.size ≤ q) s.heap nL code own TY) (hr : meth.sig.returnType = ret) (hd : decode code pc = .ok (.ireturn, 1)) (h1 : cells ≤ 600000) (h2 : slots ≤ 7302250) : xW p l e room_1 s m #[Value.ref b] below meth c D (fun q => s.heap.size ≤ q) s.heap nL cells slots (lw_Z below #[Value.ref b] s) ws pc lv [vI 1] := by
  intro H locs la hP hD hS hl
  refine va_forget (fun q hq => hS.2.2 q hq) ?_
  refine W.widen h1 h2 ?_
  rw [vI, show Int32.ofInt 1 = 1 by decide]
  exact lw_ret C.1.1 C.1.2.1 hr C.1.2.2.2.2.2.2.2 hd
end XL9
theorem xArr {s : State} {args : Array Value} {ty : FieldType} (h : (Cond.arrayClass ty).before args s = true) (hp : va_RA s = va_RA s) : ∃ cA : ClassId, ArrOfT s cA ty ∧ s.vm.findClass ("[" ++ ty.toString) = some cA := by
  obtain ⟨cA, k, comp, h1, h2, h3⟩ := Cond.arrayClass_spec h
  exact ⟨cA, fun n z => ⟨fun k h => (by cases h), k, h2, comp, h3⟩, h1⟩
theorem xArrO {s : State} {args : Array Value} {n : String} (h : (Cond.arrayOver (.object n)).before args s = true) : ∃ cA : ClassId, ArrOfT s cA (.object n) ∧ va_RA s cA (.object n) := by
  obtain ⟨comp, cA, k, h1, h2, h3, h4, h5⟩ := Cond.arrayOver_spec h
  exact ⟨cA, fun n z => ⟨fun k h => (by cases h), k, h3, comp, h4⟩, k, comp, h3, h4, h1, h5⟩
theorem law_mem {w : Cond} (i : Nat) (h : lw_tbl[i]? = some w) : w ∈ lw_tbl := List.mem_of_getElem? h

theorem law_K {s : State} {args : Array Value} (hts : ∀ w ∈ lw_tbl, w.before args s = true) : ∃ (D : va_G) (cy : Nat → ClassId), xK D (xTY cy) s := by
  obtain ⟨c0, i0, k0⟩ := u_known (C := RX0) (T := TX0) (N := 4) (n := 4) hts (fun w h => WG_in w (wx_X0 w h)) (hts (.instantiable RX0 4) (WG_in _ wt_X0))
  obtain ⟨c1, i1, k1⟩ := u_known (C := RX1) (T := TX1) (N := 6) (n := 6) hts (fun w h => WG_in w (wx_X1 w h)) (hts (.instantiable RX1 6) (WG_in _ wt_X1))
  obtain ⟨c2, i2, k2⟩ := u_known (C := RX2) (T := TX2) (N := 17) (n := 17) hts (fun w h => WG_in w (wx_X2 w h)) (hts (.instantiable RX2 17) (WG_in _ wt_X2))
  obtain ⟨c3, i3, k3⟩ := u_known (C := RX3) (T := TX3) (N := 8) (n := 8) hts (fun w h => WG_in w (wx_X3 w h)) (hts (.instantiable RX3 8) (WG_in _ wt_X3))
  obtain ⟨c4, i4, k4⟩ := u_known (C := RX4) (T := TX4) (N := 4) (n := 4) hts (fun w h => WG_in w (wx_X4 w h)) (hts (.instantiable RX4 4) (WG_in _ wt_X4))
  obtain ⟨c5, i5, k5⟩ := u_known (C := RX5) (T := TX5) (N := 9) (n := 9) hts (fun w h => WG_in w (wx_X5 w h)) (hts (.instantiable RX5 9) (WG_in _ wt_X5))
  obtain ⟨c6, i6, k6⟩ := u_known (C := RX6) (T := TX6) (N := 6) (n := 6) hts (fun w h => WG_in w (wx_X6 w h)) (hts (.instantiable RX6 6) (WG_in _ wt_X6))
  obtain ⟨c7, i7, k7⟩ := u_known (C := RX7) (T := TX7) (N := 2) (n := 2) hts (fun w h => WG_in w (wx_X7 w h)) (hts (.instantiable RX7 2) (WG_in _ wt_X7))
  obtain ⟨c8, i8, k8⟩ := u_known (C := RX8) (T := TX8) (N := 2) (n := 2) hts (fun w h => WG_in w (wx_X8 w h)) (hts (.instantiable RX8 2) (WG_in _ wt_X8))
  obtain ⟨c9, i9, k9⟩ := u_known (C := RX9) (T := TX9) (N := 6) (n := 6) hts (fun w h => WG_in w (wx_X9 w h)) (hts (.instantiable RX9 6) (WG_in _ wt_X9))
  obtain ⟨c10, i10, k10⟩ := u_known (C := RX10) (T := TX10) (N := 8) (n := 8) hts (fun w h => WG_in w (wx_X10 w h)) (hts (.instantiable RX10 8) (WG_in _ wt_X10))
  obtain ⟨c11, i11, k11⟩ := u_known (C := RX11) (T := TX11) (N := 12) (n := 12) hts (fun w h => WG_in w (wx_X11 w h)) (hts (.instantiable RX11 12) (WG_in _ wt_X11))
  obtain ⟨c12, i12, k12⟩ := u_known (C := RX12) (T := TX12) (N := 54) (n := 54) hts (fun w h => WG_in w (wx_X12 w h)) (hts (.instantiable RX12 54) (WG_in _ wt_X12))
  obtain ⟨y0, a0, f0⟩ := xArr (hts (.arrayClass .int) (WG_in _ wa_int)) rfl
  obtain ⟨y1, a1, f1⟩ := xArr (hts (.arrayClass .long) (WG_in _ wa_long)) rfl
  obtain ⟨y2, a2, f2⟩ := xArr (hts (.arrayClass .byte) (WG_in _ wa_byte)) rfl
  obtain ⟨y3, a3, f3⟩ := xArr (hts (.arrayClass .char) (WG_in _ wa_char)) rfl
  have o4 : (Cond.arrayOver (.object RX5)).before args s = true := hts _ (law_mem 138 (by decide +kernel))
  obtain ⟨y4, a4, f4⟩ := xArrO o4
  have o5 : (Cond.arrayOver (.object RX4)).before args s = true := hts _ (law_mem 140 (by decide +kernel))
  obtain ⟨y5, a5, f5⟩ := xArrO o5
  have o6 : (Cond.arrayOver (.object RX9)).before args s = true := hts _ (law_mem 330 (by decide +kernel))
  obtain ⟨y6, a6, f6⟩ := xArrO o6
  refine ⟨(fun k => if k = 0 then c0 else if k = 1 then c1 else if k = 2 then c2 else if k = 3 then c3 else if k = 4 then c4 else if k = 5 then c5 else if k = 6 then c6 else if k = 7 then c7 else if k = 8 then c8 else if k = 9 then c9 else if k = 10 then c10 else if k = 11 then c11 else c12, fun k => if k = 0 then i0 else if k = 1 then i1 else if k = 2 then i2 else if k = 3 then i3 else if k = 4 then i4 else if k = 5 then i5 else if k = 6 then i6 else if k = 7 then i7 else if k = 8 then i8 else if k = 9 then i9 else if k = 10 then i10 else if k = 11 then i11 else i12), fun k => if k = 0 then y0 else if k = 1 then y1 else if k = 2 then y2 else if k = 3 then y3 else if k = 4 then y4 else if k = 5 then y5 else y6, ⟨?_, ?_⟩, ?_, ?_⟩
  · intro k q hq
    match k, hq with
    | 0, hq => cases hq; exact k0
    | 1, hq => cases hq; exact k1
    | 2, hq => cases hq; exact k2
    | 3, hq => cases hq; exact k3
    | 4, hq => cases hq; exact k4
    | 5, hq => cases hq; exact k5
    | 6, hq => cases hq; exact k6
    | 7, hq => cases hq; exact k7
    | 8, hq => cases hq; exact k8
    | 9, hq => cases hq; exact k9
    | 10, hq => cases hq; exact k10
    | 11, hq => cases hq; exact k11
    | 12, hq => cases hq; exact k12
    | k + 13, hq => simp [vwCl] at hq
  · intro k q hq
    match k, hq with
    | 0, hq => cases hq; exact ⟨a0, f0⟩
    | 1, hq => cases hq; exact ⟨a1, f1⟩
    | 2, hq => cases hq; exact ⟨a2, f2⟩
    | 3, hq => cases hq; exact ⟨a3, f3⟩
    | 4, hq => cases hq; exact ⟨a4, f4⟩
    | 5, hq => cases hq; exact ⟨a5, f5⟩
    | 6, hq => cases hq; exact ⟨a6, f6⟩
    | k + 7, hq => simp [xTY] at hq
  · intro C hC
    simp only [List.mem_cons, List.not_mem_nil, or_false] at hC
    rcases hC with rfl | rfl | rfl
    · exact va_AO.of o4
    · exact va_AO.of o5
    · exact va_AO.of o6
  · intro q hq
    simp only [xNst, List.mem_cons, List.not_mem_nil, or_false] at hq
    rcases hq with rfl | rfl | rfl | rfl | rfl | rfl | rfl | rfl | rfl | rfl
    · exact va_Nw.of rfl (hts _ (law_mem 278 (by decide +kernel)))
    · exact va_Nw.of rfl (hts _ (law_mem 405 (by decide +kernel)))
    · exact va_Nw.of rfl (hts _ (law_mem 503 (by decide +kernel)))
    · exact va_Nw.of rfl (hts _ (law_mem 298 (by decide +kernel)))
    · exact va_Nw.of rfl (hts _ (law_mem 333 (by decide +kernel)))
    · exact va_Nw.of rfl (hts _ (law_mem 142 (by decide +kernel)))
    · exact va_Nw.of rfl (hts _ (law_mem 200 (by decide +kernel)))
    · exact va_Nw.of rfl (hts _ (law_mem 585 (by decide +kernel)))
    · exact va_Nw.of rfl (hts _ (law_mem 357 (by decide +kernel)))
    · exact va_Nw.of rfl (hts _ (law_mem 473 (by decide +kernel)))
theorem hd_yX11_alone : yX11_alone.cls ≠ "java/lang/invoke/MethodHandle" ∧ yX11_alone.cls ≠ "java/lang/invoke/VarHandle" ∧ (parseMethodDescriptor yX11_alone.desc).map (fun d => d.parameters.length) = some 2 := by decide +kernel
theorem hd_yX11_can : yX11_can.cls ≠ "java/lang/invoke/MethodHandle" ∧ yX11_can.cls ≠ "java/lang/invoke/VarHandle" ∧ (parseMethodDescriptor yX11_can.desc).map (fun d => d.parameters.length) = some 4 := by decide +kernel
theorem hd_yX11_card : yX11_card.cls ≠ "java/lang/invoke/MethodHandle" ∧ yX11_card.cls ≠ "java/lang/invoke/VarHandle" ∧ (parseMethodDescriptor yX11_card.desc).map (fun d => d.parameters.length) = some 2 := by decide +kernel
theorem hd_yX11_chance : yX11_chance.cls ≠ "java/lang/invoke/MethodHandle" ∧ yX11_chance.cls ≠ "java/lang/invoke/VarHandle" ∧ (parseMethodDescriptor yX11_chance.desc).map (fun d => d.parameters.length) = some 4 := by decide +kernel
theorem hd_yX11_check : yX11_check.cls ≠ "java/lang/invoke/MethodHandle" ∧ yX11_check.cls ≠ "java/lang/invoke/VarHandle" ∧ (parseMethodDescriptor yX11_check.desc).map (fun d => d.parameters.length) = some 2 := by decide +kernel
theorem hd_yX11_comes : yX11_comes.cls ≠ "java/lang/invoke/MethodHandle" ∧ yX11_comes.cls ≠ "java/lang/invoke/VarHandle" ∧ (parseMethodDescriptor yX11_comes.desc).map (fun d => d.parameters.length) = some 3 := by decide +kernel
theorem hd_yX11_count : yX11_count.cls ≠ "java/lang/invoke/MethodHandle" ∧ yX11_count.cls ≠ "java/lang/invoke/VarHandle" ∧ (parseMethodDescriptor yX11_count.desc).map (fun d => d.parameters.length) = some 1 := by decide +kernel
theorem hd_yX11_days : yX11_days.cls ≠ "java/lang/invoke/MethodHandle" ∧ yX11_days.cls ≠ "java/lang/invoke/VarHandle" ∧ (parseMethodDescriptor yX11_days.desc).map (fun d => d.parameters.length) = some 1 := by decide +kernel
theorem hd_yX11_exactly : yX11_exactly.cls ≠ "java/lang/invoke/MethodHandle" ∧ yX11_exactly.cls ≠ "java/lang/invoke/VarHandle" ∧ (parseMethodDescriptor yX11_exactly.desc).map (fun d => d.parameters.length) = some 4 := by decide +kernel
theorem hd_yX11_feed : yX11_feed.cls ≠ "java/lang/invoke/MethodHandle" ∧ yX11_feed.cls ≠ "java/lang/invoke/VarHandle" ∧ (parseMethodDescriptor yX11_feed.desc).map (fun d => d.parameters.length) = some 5 := by decide +kernel
theorem hd_yX11_few : yX11_few.cls ≠ "java/lang/invoke/MethodHandle" ∧ yX11_few.cls ≠ "java/lang/invoke/VarHandle" ∧ (parseMethodDescriptor yX11_few.desc).map (fun d => d.parameters.length) = some 4 := by decide +kernel
theorem hd_yX11_gives : yX11_gives.cls ≠ "java/lang/invoke/MethodHandle" ∧ yX11_gives.cls ≠ "java/lang/invoke/VarHandle" ∧ (parseMethodDescriptor yX11_gives.desc).map (fun d => d.parameters.length) = some 2 := by decide +kernel
theorem hd_yX11_keep : yX11_keep.cls ≠ "java/lang/invoke/MethodHandle" ∧ yX11_keep.cls ≠ "java/lang/invoke/VarHandle" ∧ (parseMethodDescriptor yX11_keep.desc).map (fun d => d.parameters.length) = some 0 := by decide +kernel
theorem hd_yX11_lasts : yX11_lasts.cls ≠ "java/lang/invoke/MethodHandle" ∧ yX11_lasts.cls ≠ "java/lang/invoke/VarHandle" ∧ (parseMethodDescriptor yX11_lasts.desc).map (fun d => d.parameters.length) = some 2 := by decide +kernel
theorem hd_yX11_law : yX11_law.cls ≠ "java/lang/invoke/MethodHandle" ∧ yX11_law.cls ≠ "java/lang/invoke/VarHandle" ∧ (parseMethodDescriptor yX11_law.desc).map (fun d => d.parameters.length) = some 1 := by decide +kernel
theorem hd_yX11_movesOut : yX11_movesOut.cls ≠ "java/lang/invoke/MethodHandle" ∧ yX11_movesOut.cls ≠ "java/lang/invoke/VarHandle" ∧ (parseMethodDescriptor yX11_movesOut.desc).map (fun d => d.parameters.length) = some 4 := by decide +kernel
theorem hd_yX11_needs : yX11_needs.cls ≠ "java/lang/invoke/MethodHandle" ∧ yX11_needs.cls ≠ "java/lang/invoke/VarHandle" ∧ (parseMethodDescriptor yX11_needs.desc).map (fun d => d.parameters.length) = some 2 := by decide +kernel
theorem hd_yX11_person : yX11_person.cls ≠ "java/lang/invoke/MethodHandle" ∧ yX11_person.cls ≠ "java/lang/invoke/VarHandle" ∧ (parseMethodDescriptor yX11_person.desc).map (fun d => d.parameters.length) = some 3 := by decide +kernel
theorem hd_yX11_plant : yX11_plant.cls ≠ "java/lang/invoke/MethodHandle" ∧ yX11_plant.cls ≠ "java/lang/invoke/VarHandle" ∧ (parseMethodDescriptor yX11_plant.desc).map (fun d => d.parameters.length) = some 4 := by decide +kernel
theorem hd_yX11_plantIs : yX11_plantIs.cls ≠ "java/lang/invoke/MethodHandle" ∧ yX11_plantIs.cls ≠ "java/lang/invoke/VarHandle" ∧ (parseMethodDescriptor yX11_plantIs.desc).map (fun d => d.parameters.length) = some 2 := by decide +kernel
theorem hd_yX11_pot : yX11_pot.cls ≠ "java/lang/invoke/MethodHandle" ∧ yX11_pot.cls ≠ "java/lang/invoke/VarHandle" ∧ (parseMethodDescriptor yX11_pot.desc).map (fun d => d.parameters.length) = some 4 := by decide +kernel
theorem hd_yX11_pour : yX11_pour.cls ≠ "java/lang/invoke/MethodHandle" ∧ yX11_pour.cls ≠ "java/lang/invoke/VarHandle" ∧ (parseMethodDescriptor yX11_pour.desc).map (fun d => d.parameters.length) = some 2 := by decide +kernel
theorem hd_yX11_rota : yX11_rota.cls ≠ "java/lang/invoke/MethodHandle" ∧ yX11_rota.cls ≠ "java/lang/invoke/VarHandle" ∧ (parseMethodDescriptor yX11_rota.desc).map (fun d => d.parameters.length) = some 3 := by decide +kernel
theorem hd_yX11_rule : yX11_rule.cls ≠ "java/lang/invoke/MethodHandle" ∧ yX11_rule.cls ≠ "java/lang/invoke/VarHandle" ∧ (parseMethodDescriptor yX11_rule.desc).map (fun d => d.parameters.length) = some 2 := by decide +kernel
theorem hd_yX11_ruleFor : yX11_ruleFor.cls ≠ "java/lang/invoke/MethodHandle" ∧ yX11_ruleFor.cls ≠ "java/lang/invoke/VarHandle" ∧ (parseMethodDescriptor yX11_ruleFor.desc).map (fun d => d.parameters.length) = some 5 := by decide +kernel
theorem hd_yX11_seed : yX11_seed.cls ≠ "java/lang/invoke/MethodHandle" ∧ yX11_seed.cls ≠ "java/lang/invoke/VarHandle" ∧ (parseMethodDescriptor yX11_seed.desc).map (fun d => d.parameters.length) = some 1 := by decide +kernel
theorem hd_yX11_share : yX11_share.cls ≠ "java/lang/invoke/MethodHandle" ∧ yX11_share.cls ≠ "java/lang/invoke/VarHandle" ∧ (parseMethodDescriptor yX11_share.desc).map (fun d => d.parameters.length) = some 2 := by decide +kernel
theorem hd_yX11_spread : yX11_spread.cls ≠ "java/lang/invoke/MethodHandle" ∧ yX11_spread.cls ≠ "java/lang/invoke/VarHandle" ∧ (parseMethodDescriptor yX11_spread.desc).map (fun d => d.parameters.length) = some 2 := by decide +kernel
theorem hd_yX11_toAsk : yX11_toAsk.cls ≠ "java/lang/invoke/MethodHandle" ∧ yX11_toAsk.cls ≠ "java/lang/invoke/VarHandle" ∧ (parseMethodDescriptor yX11_toAsk.desc).map (fun d => d.parameters.length) = some 4 := by decide +kernel
theorem hd_yX11_tried : yX11_tried.cls ≠ "java/lang/invoke/MethodHandle" ∧ yX11_tried.cls ≠ "java/lang/invoke/VarHandle" ∧ (parseMethodDescriptor yX11_tried.desc).map (fun d => d.parameters.length) = some 2 := by decide +kernel
theorem hd_yX11_undo : yX11_undo.cls ≠ "java/lang/invoke/MethodHandle" ∧ yX11_undo.cls ≠ "java/lang/invoke/VarHandle" ∧ (parseMethodDescriptor yX11_undo.desc).map (fun d => d.parameters.length) = some 0 := by decide +kernel
theorem hd_yX11_week : yX11_week.cls ≠ "java/lang/invoke/MethodHandle" ∧ yX11_week.cls ≠ "java/lang/invoke/VarHandle" ∧ (parseMethodDescriptor yX11_week.desc).map (fun d => d.parameters.length) = some 3 := by decide +kernel
theorem hd_yX11_whoDid : yX11_whoDid.cls ≠ "java/lang/invoke/MethodHandle" ∧ yX11_whoDid.cls ≠ "java/lang/invoke/VarHandle" ∧ (parseMethodDescriptor yX11_whoDid.desc).map (fun d => d.parameters.length) = some 5 := by decide +kernel
theorem hd_yX12_alone : yX12_alone.cls ≠ "java/lang/invoke/MethodHandle" ∧ yX12_alone.cls ≠ "java/lang/invoke/VarHandle" ∧ (parseMethodDescriptor yX12_alone.desc).map (fun d => d.parameters.length) = some 2 := by decide +kernel
theorem hd_yX12_can : yX12_can.cls ≠ "java/lang/invoke/MethodHandle" ∧ yX12_can.cls ≠ "java/lang/invoke/VarHandle" ∧ (parseMethodDescriptor yX12_can.desc).map (fun d => d.parameters.length) = some 4 := by decide +kernel
theorem hd_yX12_card : yX12_card.cls ≠ "java/lang/invoke/MethodHandle" ∧ yX12_card.cls ≠ "java/lang/invoke/VarHandle" ∧ (parseMethodDescriptor yX12_card.desc).map (fun d => d.parameters.length) = some 2 := by decide +kernel
theorem hd_yX12_chance : yX12_chance.cls ≠ "java/lang/invoke/MethodHandle" ∧ yX12_chance.cls ≠ "java/lang/invoke/VarHandle" ∧ (parseMethodDescriptor yX12_chance.desc).map (fun d => d.parameters.length) = some 4 := by decide +kernel
theorem hd_yX12_check : yX12_check.cls ≠ "java/lang/invoke/MethodHandle" ∧ yX12_check.cls ≠ "java/lang/invoke/VarHandle" ∧ (parseMethodDescriptor yX12_check.desc).map (fun d => d.parameters.length) = some 2 := by decide +kernel
theorem hd_yX12_comes : yX12_comes.cls ≠ "java/lang/invoke/MethodHandle" ∧ yX12_comes.cls ≠ "java/lang/invoke/VarHandle" ∧ (parseMethodDescriptor yX12_comes.desc).map (fun d => d.parameters.length) = some 3 := by decide +kernel
theorem hd_yX12_count : yX12_count.cls ≠ "java/lang/invoke/MethodHandle" ∧ yX12_count.cls ≠ "java/lang/invoke/VarHandle" ∧ (parseMethodDescriptor yX12_count.desc).map (fun d => d.parameters.length) = some 1 := by decide +kernel
theorem hd_yX12_days : yX12_days.cls ≠ "java/lang/invoke/MethodHandle" ∧ yX12_days.cls ≠ "java/lang/invoke/VarHandle" ∧ (parseMethodDescriptor yX12_days.desc).map (fun d => d.parameters.length) = some 1 := by decide +kernel
theorem hd_yX12_exactly : yX12_exactly.cls ≠ "java/lang/invoke/MethodHandle" ∧ yX12_exactly.cls ≠ "java/lang/invoke/VarHandle" ∧ (parseMethodDescriptor yX12_exactly.desc).map (fun d => d.parameters.length) = some 4 := by decide +kernel
theorem hd_yX12_feed : yX12_feed.cls ≠ "java/lang/invoke/MethodHandle" ∧ yX12_feed.cls ≠ "java/lang/invoke/VarHandle" ∧ (parseMethodDescriptor yX12_feed.desc).map (fun d => d.parameters.length) = some 5 := by decide +kernel
theorem hd_yX12_few : yX12_few.cls ≠ "java/lang/invoke/MethodHandle" ∧ yX12_few.cls ≠ "java/lang/invoke/VarHandle" ∧ (parseMethodDescriptor yX12_few.desc).map (fun d => d.parameters.length) = some 4 := by decide +kernel
theorem hd_yX12_gives : yX12_gives.cls ≠ "java/lang/invoke/MethodHandle" ∧ yX12_gives.cls ≠ "java/lang/invoke/VarHandle" ∧ (parseMethodDescriptor yX12_gives.desc).map (fun d => d.parameters.length) = some 2 := by decide +kernel
theorem hd_yX12_keep : yX12_keep.cls ≠ "java/lang/invoke/MethodHandle" ∧ yX12_keep.cls ≠ "java/lang/invoke/VarHandle" ∧ (parseMethodDescriptor yX12_keep.desc).map (fun d => d.parameters.length) = some 0 := by decide +kernel
theorem hd_yX12_lasts : yX12_lasts.cls ≠ "java/lang/invoke/MethodHandle" ∧ yX12_lasts.cls ≠ "java/lang/invoke/VarHandle" ∧ (parseMethodDescriptor yX12_lasts.desc).map (fun d => d.parameters.length) = some 2 := by decide +kernel
theorem hd_yX12_law : yX12_law.cls ≠ "java/lang/invoke/MethodHandle" ∧ yX12_law.cls ≠ "java/lang/invoke/VarHandle" ∧ (parseMethodDescriptor yX12_law.desc).map (fun d => d.parameters.length) = some 1 := by decide +kernel
theorem hd_yX12_movesOut : yX12_movesOut.cls ≠ "java/lang/invoke/MethodHandle" ∧ yX12_movesOut.cls ≠ "java/lang/invoke/VarHandle" ∧ (parseMethodDescriptor yX12_movesOut.desc).map (fun d => d.parameters.length) = some 4 := by decide +kernel
theorem hd_yX12_needs : yX12_needs.cls ≠ "java/lang/invoke/MethodHandle" ∧ yX12_needs.cls ≠ "java/lang/invoke/VarHandle" ∧ (parseMethodDescriptor yX12_needs.desc).map (fun d => d.parameters.length) = some 2 := by decide +kernel
theorem hd_yX12_person : yX12_person.cls ≠ "java/lang/invoke/MethodHandle" ∧ yX12_person.cls ≠ "java/lang/invoke/VarHandle" ∧ (parseMethodDescriptor yX12_person.desc).map (fun d => d.parameters.length) = some 3 := by decide +kernel
theorem hd_yX12_plant : yX12_plant.cls ≠ "java/lang/invoke/MethodHandle" ∧ yX12_plant.cls ≠ "java/lang/invoke/VarHandle" ∧ (parseMethodDescriptor yX12_plant.desc).map (fun d => d.parameters.length) = some 4 := by decide +kernel
theorem hd_yX12_plantIs : yX12_plantIs.cls ≠ "java/lang/invoke/MethodHandle" ∧ yX12_plantIs.cls ≠ "java/lang/invoke/VarHandle" ∧ (parseMethodDescriptor yX12_plantIs.desc).map (fun d => d.parameters.length) = some 2 := by decide +kernel
theorem hd_yX12_pot : yX12_pot.cls ≠ "java/lang/invoke/MethodHandle" ∧ yX12_pot.cls ≠ "java/lang/invoke/VarHandle" ∧ (parseMethodDescriptor yX12_pot.desc).map (fun d => d.parameters.length) = some 4 := by decide +kernel
theorem hd_yX12_pour : yX12_pour.cls ≠ "java/lang/invoke/MethodHandle" ∧ yX12_pour.cls ≠ "java/lang/invoke/VarHandle" ∧ (parseMethodDescriptor yX12_pour.desc).map (fun d => d.parameters.length) = some 2 := by decide +kernel
theorem hd_yX12_rota : yX12_rota.cls ≠ "java/lang/invoke/MethodHandle" ∧ yX12_rota.cls ≠ "java/lang/invoke/VarHandle" ∧ (parseMethodDescriptor yX12_rota.desc).map (fun d => d.parameters.length) = some 3 := by decide +kernel
theorem hd_yX12_rule : yX12_rule.cls ≠ "java/lang/invoke/MethodHandle" ∧ yX12_rule.cls ≠ "java/lang/invoke/VarHandle" ∧ (parseMethodDescriptor yX12_rule.desc).map (fun d => d.parameters.length) = some 2 := by decide +kernel
theorem hd_yX12_ruleFor : yX12_ruleFor.cls ≠ "java/lang/invoke/MethodHandle" ∧ yX12_ruleFor.cls ≠ "java/lang/invoke/VarHandle" ∧ (parseMethodDescriptor yX12_ruleFor.desc).map (fun d => d.parameters.length) = some 5 := by decide +kernel
theorem hd_yX12_seed : yX12_seed.cls ≠ "java/lang/invoke/MethodHandle" ∧ yX12_seed.cls ≠ "java/lang/invoke/VarHandle" ∧ (parseMethodDescriptor yX12_seed.desc).map (fun d => d.parameters.length) = some 1 := by decide +kernel
theorem hd_yX12_share : yX12_share.cls ≠ "java/lang/invoke/MethodHandle" ∧ yX12_share.cls ≠ "java/lang/invoke/VarHandle" ∧ (parseMethodDescriptor yX12_share.desc).map (fun d => d.parameters.length) = some 2 := by decide +kernel
theorem hd_yX12_spread : yX12_spread.cls ≠ "java/lang/invoke/MethodHandle" ∧ yX12_spread.cls ≠ "java/lang/invoke/VarHandle" ∧ (parseMethodDescriptor yX12_spread.desc).map (fun d => d.parameters.length) = some 2 := by decide +kernel
theorem hd_yX12_toAsk : yX12_toAsk.cls ≠ "java/lang/invoke/MethodHandle" ∧ yX12_toAsk.cls ≠ "java/lang/invoke/VarHandle" ∧ (parseMethodDescriptor yX12_toAsk.desc).map (fun d => d.parameters.length) = some 4 := by decide +kernel
theorem hd_yX12_tried : yX12_tried.cls ≠ "java/lang/invoke/MethodHandle" ∧ yX12_tried.cls ≠ "java/lang/invoke/VarHandle" ∧ (parseMethodDescriptor yX12_tried.desc).map (fun d => d.parameters.length) = some 2 := by decide +kernel
theorem hd_yX12_undo : yX12_undo.cls ≠ "java/lang/invoke/MethodHandle" ∧ yX12_undo.cls ≠ "java/lang/invoke/VarHandle" ∧ (parseMethodDescriptor yX12_undo.desc).map (fun d => d.parameters.length) = some 0 := by decide +kernel
theorem hd_yX12_week : yX12_week.cls ≠ "java/lang/invoke/MethodHandle" ∧ yX12_week.cls ≠ "java/lang/invoke/VarHandle" ∧ (parseMethodDescriptor yX12_week.desc).map (fun d => d.parameters.length) = some 3 := by decide +kernel
theorem hd_yX12_whoDid : yX12_whoDid.cls ≠ "java/lang/invoke/MethodHandle" ∧ yX12_whoDid.cls ≠ "java/lang/invoke/VarHandle" ∧ (parseMethodDescriptor yX12_whoDid.desc).map (fun d => d.parameters.length) = some 5 := by decide +kernel
theorem dL_law_0 : decode code 0 = .ok (.new 7, 3) := by decide +kernel
theorem dL_law_3 : decode code 3 = .ok (.dup, 1) := by decide +kernel
theorem dL_law_4 : decode code 4 = .ok (.invokespecial 9, 3) := by decide +kernel
theorem dL_law_7 : decode code 7 = .ok (.astore_n 1, 1) := by decide +kernel
theorem dL_law_8 : decode code 8 = .ok (.new 10, 3) := by decide +kernel
theorem dL_law_11 : decode code 11 = .ok (.dup, 1) := by decide +kernel
theorem dL_law_12 : decode code 12 = .ok (.invokespecial 12, 3) := by decide +kernel
theorem dL_law_15 : decode code 15 = .ok (.astore_n 2, 1) := by decide +kernel
theorem dL_law_16 : decode code 16 = .ok (.iconst 0, 1) := by decide +kernel
theorem dL_law_17 : decode code 17 = .ok (.istore_n 3, 1) := by decide +kernel
theorem dL_law_18 : decode code 18 = .ok (.iload_n 3, 1) := by decide +kernel
theorem dL_law_19 : decode code 19 = .ok (.aload_n 0, 1) := by decide +kernel
theorem dL_law_20 : decode code 20 = .ok (.arraylength, 1) := by decide +kernel
theorem dL_law_21 : decode code 21 = .ok (.bipush 6, 2) := by decide +kernel
theorem dL_law_23 : decode code 23 = .ok (.isub, 1) := by decide +kernel
theorem dL_law_24 : decode code 24 = .ok (.if_icmp .gt 1486, 3) := by decide +kernel
theorem dL_law_27 : decode code 27 = .ok (.aload_n 0, 1) := by decide +kernel
theorem dL_law_28 : decode code 28 = .ok (.iload_n 3, 1) := by decide +kernel
theorem dL_law_29 : decode code 29 = .ok (.iaload, 1) := by decide +kernel
theorem dL_law_30 : decode code 30 = .ok (.bipush 63, 2) := by decide +kernel
theorem dL_law_32 : decode code 32 = .ok (.iand, 1) := by decide +kernel
theorem dL_law_33 : decode code 33 = .ok (.tableswitch 1471 0 32 #[147, 200, 243, 292, 325, 388, 411, 444, 467, 500, 533, 566, 620, 674, 728, 781, 835, 899, 932, 965, 1008, 1062, 1095, 1139, 1172, 1215, 1248, 1312, 1366, 1389, 1402, 1415, 1448], 147) := by decide +kernel
theorem dL_law_180 : decode code 180 = .ok (.aload_n 1, 1) := by decide +kernel
theorem dL_law_181 : decode code 181 = .ok (.aload_n 0, 1) := by decide +kernel
theorem dL_law_182 : decode code 182 = .ok (.iload_n 3, 1) := by decide +kernel
theorem dL_law_183 : decode code 183 = .ok (.iconst 1, 1) := by decide +kernel
theorem dL_law_184 : decode code 184 = .ok (.iadd, 1) := by decide +kernel
theorem dL_law_185 : decode code 185 = .ok (.iaload, 1) := by decide +kernel
theorem dL_law_186 : decode code 186 = .ok (.aload_n 0, 1) := by decide +kernel
theorem dL_law_187 : decode code 187 = .ok (.iload_n 3, 1) := by decide +kernel
theorem dL_law_188 : decode code 188 = .ok (.iconst 2, 1) := by decide +kernel
theorem dL_law_189 : decode code 189 = .ok (.iadd, 1) := by decide +kernel
theorem dL_law_190 : decode code 190 = .ok (.iaload, 1) := by decide +kernel
theorem dL_law_191 : decode code 191 = .ok (.aload_n 0, 1) := by decide +kernel
theorem dL_law_192 : decode code 192 = .ok (.iload_n 3, 1) := by decide +kernel
theorem dL_law_193 : decode code 193 = .ok (.iconst 3, 1) := by decide +kernel
theorem dL_law_194 : decode code 194 = .ok (.iadd, 1) := by decide +kernel
theorem dL_law_195 : decode code 195 = .ok (.iaload, 1) := by decide +kernel
theorem dL_law_196 : decode code 196 = .ok (.aload_n 0, 1) := by decide +kernel
theorem dL_law_197 : decode code 197 = .ok (.iload_n 3, 1) := by decide +kernel
theorem dL_law_198 : decode code 198 = .ok (.iconst 4, 1) := by decide +kernel
theorem dL_law_199 : decode code 199 = .ok (.iadd, 1) := by decide +kernel
theorem dL_law_200 : decode code 200 = .ok (.iaload, 1) := by decide +kernel
theorem dL_law_201 : decode code 201 = .ok (.invokevirtual 13, 3) := by decide +kernel
theorem dL_law_204 : decode code 204 = .ok (.aload_n 2, 1) := by decide +kernel
theorem dL_law_205 : decode code 205 = .ok (.aload_n 0, 1) := by decide +kernel
theorem dL_law_206 : decode code 206 = .ok (.iload_n 3, 1) := by decide +kernel
theorem dL_law_207 : decode code 207 = .ok (.iconst 1, 1) := by decide +kernel
theorem dL_law_208 : decode code 208 = .ok (.iadd, 1) := by decide +kernel
theorem dL_law_209 : decode code 209 = .ok (.iaload, 1) := by decide +kernel
theorem dL_law_210 : decode code 210 = .ok (.aload_n 0, 1) := by decide +kernel
theorem dL_law_211 : decode code 211 = .ok (.iload_n 3, 1) := by decide +kernel
theorem dL_law_212 : decode code 212 = .ok (.iconst 2, 1) := by decide +kernel
theorem dL_law_213 : decode code 213 = .ok (.iadd, 1) := by decide +kernel
theorem dL_law_214 : decode code 214 = .ok (.iaload, 1) := by decide +kernel
theorem dL_law_215 : decode code 215 = .ok (.aload_n 0, 1) := by decide +kernel
theorem dL_law_216 : decode code 216 = .ok (.iload_n 3, 1) := by decide +kernel
theorem dL_law_217 : decode code 217 = .ok (.iconst 3, 1) := by decide +kernel
theorem dL_law_218 : decode code 218 = .ok (.iadd, 1) := by decide +kernel
theorem dL_law_219 : decode code 219 = .ok (.iaload, 1) := by decide +kernel
theorem dL_law_220 : decode code 220 = .ok (.aload_n 0, 1) := by decide +kernel
theorem dL_law_221 : decode code 221 = .ok (.iload_n 3, 1) := by decide +kernel
theorem dL_law_222 : decode code 222 = .ok (.iconst 4, 1) := by decide +kernel
theorem dL_law_223 : decode code 223 = .ok (.iadd, 1) := by decide +kernel
theorem dL_law_224 : decode code 224 = .ok (.iaload, 1) := by decide +kernel
theorem dL_law_225 : decode code 225 = .ok (.invokevirtual 17, 3) := by decide +kernel
theorem dL_law_228 : decode code 228 = .ok (.if_icmp .eq 1276, 3) := by decide +kernel
theorem dL_law_233 : decode code 233 = .ok (.aload_n 1, 1) := by decide +kernel
theorem dL_law_234 : decode code 234 = .ok (.aload_n 0, 1) := by decide +kernel
theorem dL_law_235 : decode code 235 = .ok (.iload_n 3, 1) := by decide +kernel
theorem dL_law_236 : decode code 236 = .ok (.iconst 1, 1) := by decide +kernel
theorem dL_law_237 : decode code 237 = .ok (.iadd, 1) := by decide +kernel
theorem dL_law_238 : decode code 238 = .ok (.iaload, 1) := by decide +kernel
theorem dL_law_239 : decode code 239 = .ok (.aload_n 0, 1) := by decide +kernel
theorem dL_law_240 : decode code 240 = .ok (.iload_n 3, 1) := by decide +kernel
theorem dL_law_241 : decode code 241 = .ok (.iconst 2, 1) := by decide +kernel
theorem dL_law_242 : decode code 242 = .ok (.iadd, 1) := by decide +kernel
theorem dL_law_243 : decode code 243 = .ok (.iaload, 1) := by decide +kernel
theorem dL_law_244 : decode code 244 = .ok (.aload_n 0, 1) := by decide +kernel
theorem dL_law_245 : decode code 245 = .ok (.iload_n 3, 1) := by decide +kernel
theorem dL_law_246 : decode code 246 = .ok (.iconst 3, 1) := by decide +kernel
theorem dL_law_247 : decode code 247 = .ok (.iadd, 1) := by decide +kernel
theorem dL_law_248 : decode code 248 = .ok (.iaload, 1) := by decide +kernel
theorem dL_law_249 : decode code 249 = .ok (.invokevirtual 18, 3) := by decide +kernel
theorem dL_law_252 : decode code 252 = .ok (.aload_n 2, 1) := by decide +kernel
theorem dL_law_253 : decode code 253 = .ok (.aload_n 0, 1) := by decide +kernel
theorem dL_law_254 : decode code 254 = .ok (.iload_n 3, 1) := by decide +kernel
theorem dL_law_255 : decode code 255 = .ok (.iconst 1, 1) := by decide +kernel
theorem dL_law_256 : decode code 256 = .ok (.iadd, 1) := by decide +kernel
theorem dL_law_257 : decode code 257 = .ok (.iaload, 1) := by decide +kernel
theorem dL_law_258 : decode code 258 = .ok (.aload_n 0, 1) := by decide +kernel
theorem dL_law_259 : decode code 259 = .ok (.iload_n 3, 1) := by decide +kernel
theorem dL_law_260 : decode code 260 = .ok (.iconst 2, 1) := by decide +kernel
theorem dL_law_261 : decode code 261 = .ok (.iadd, 1) := by decide +kernel
theorem dL_law_262 : decode code 262 = .ok (.iaload, 1) := by decide +kernel
theorem dL_law_263 : decode code 263 = .ok (.aload_n 0, 1) := by decide +kernel
theorem dL_law_264 : decode code 264 = .ok (.iload_n 3, 1) := by decide +kernel
theorem dL_law_265 : decode code 265 = .ok (.iconst 3, 1) := by decide +kernel
theorem dL_law_266 : decode code 266 = .ok (.iadd, 1) := by decide +kernel
theorem dL_law_267 : decode code 267 = .ok (.iaload, 1) := by decide +kernel
theorem dL_law_268 : decode code 268 = .ok (.invokevirtual 22, 3) := by decide +kernel
theorem dL_law_271 : decode code 271 = .ok (.if_icmp .eq 1233, 3) := by decide +kernel
theorem dL_law_276 : decode code 276 = .ok (.aload_n 1, 1) := by decide +kernel
theorem dL_law_277 : decode code 277 = .ok (.aload_n 0, 1) := by decide +kernel
theorem dL_law_278 : decode code 278 = .ok (.iload_n 3, 1) := by decide +kernel
theorem dL_law_279 : decode code 279 = .ok (.iconst 1, 1) := by decide +kernel
theorem dL_law_280 : decode code 280 = .ok (.iadd, 1) := by decide +kernel
theorem dL_law_281 : decode code 281 = .ok (.iaload, 1) := by decide +kernel
theorem dL_law_282 : decode code 282 = .ok (.aload_n 0, 1) := by decide +kernel
theorem dL_law_283 : decode code 283 = .ok (.iload_n 3, 1) := by decide +kernel
theorem dL_law_284 : decode code 284 = .ok (.iconst 2, 1) := by decide +kernel
theorem dL_law_285 : decode code 285 = .ok (.iadd, 1) := by decide +kernel
theorem dL_law_286 : decode code 286 = .ok (.iaload, 1) := by decide +kernel
theorem dL_law_287 : decode code 287 = .ok (.ifCond .eq 7, 3) := by decide +kernel
theorem dL_law_290 : decode code 290 = .ok (.iconst 1, 1) := by decide +kernel
theorem dL_law_291 : decode code 291 = .ok (.goto 4, 3) := by decide +kernel
theorem dL_law_294 : decode code 294 = .ok (.iconst 0, 1) := by decide +kernel
theorem dL_law_295 : decode code 295 = .ok (.invokevirtual 23, 3) := by decide +kernel
theorem dL_law_298 : decode code 298 = .ok (.aload_n 2, 1) := by decide +kernel
theorem dL_law_299 : decode code 299 = .ok (.aload_n 0, 1) := by decide +kernel
theorem dL_law_300 : decode code 300 = .ok (.iload_n 3, 1) := by decide +kernel
theorem dL_law_301 : decode code 301 = .ok (.iconst 1, 1) := by decide +kernel
theorem dL_law_302 : decode code 302 = .ok (.iadd, 1) := by decide +kernel
theorem dL_law_303 : decode code 303 = .ok (.iaload, 1) := by decide +kernel
theorem dL_law_304 : decode code 304 = .ok (.aload_n 0, 1) := by decide +kernel
theorem dL_law_305 : decode code 305 = .ok (.iload_n 3, 1) := by decide +kernel
theorem dL_law_306 : decode code 306 = .ok (.iconst 2, 1) := by decide +kernel
theorem dL_law_307 : decode code 307 = .ok (.iadd, 1) := by decide +kernel
theorem dL_law_308 : decode code 308 = .ok (.iaload, 1) := by decide +kernel
theorem dL_law_309 : decode code 309 = .ok (.ifCond .eq 7, 3) := by decide +kernel
theorem dL_law_312 : decode code 312 = .ok (.iconst 1, 1) := by decide +kernel
theorem dL_law_313 : decode code 313 = .ok (.goto 4, 3) := by decide +kernel
theorem dL_law_316 : decode code 316 = .ok (.iconst 0, 1) := by decide +kernel
theorem dL_law_317 : decode code 317 = .ok (.invokevirtual 27, 3) := by decide +kernel
theorem dL_law_320 : decode code 320 = .ok (.if_icmp .eq 1184, 3) := by decide +kernel
theorem dL_law_325 : decode code 325 = .ok (.aload_n 1, 1) := by decide +kernel
theorem dL_law_326 : decode code 326 = .ok (.aload_n 0, 1) := by decide +kernel
theorem dL_law_327 : decode code 327 = .ok (.iload_n 3, 1) := by decide +kernel
theorem dL_law_328 : decode code 328 = .ok (.iconst 1, 1) := by decide +kernel
theorem dL_law_329 : decode code 329 = .ok (.iadd, 1) := by decide +kernel
theorem dL_law_330 : decode code 330 = .ok (.iaload, 1) := by decide +kernel
theorem dL_law_331 : decode code 331 = .ok (.aload_n 0, 1) := by decide +kernel
theorem dL_law_332 : decode code 332 = .ok (.iload_n 3, 1) := by decide +kernel
theorem dL_law_333 : decode code 333 = .ok (.iconst 2, 1) := by decide +kernel
theorem dL_law_334 : decode code 334 = .ok (.iadd, 1) := by decide +kernel
theorem dL_law_335 : decode code 335 = .ok (.iaload, 1) := by decide +kernel
theorem dL_law_336 : decode code 336 = .ok (.invokevirtual 28, 3) := by decide +kernel
theorem dL_law_339 : decode code 339 = .ok (.aload_n 2, 1) := by decide +kernel
theorem dL_law_340 : decode code 340 = .ok (.aload_n 0, 1) := by decide +kernel
theorem dL_law_341 : decode code 341 = .ok (.iload_n 3, 1) := by decide +kernel
theorem dL_law_342 : decode code 342 = .ok (.iconst 1, 1) := by decide +kernel
theorem dL_law_343 : decode code 343 = .ok (.iadd, 1) := by decide +kernel
theorem dL_law_344 : decode code 344 = .ok (.iaload, 1) := by decide +kernel
theorem dL_law_345 : decode code 345 = .ok (.aload_n 0, 1) := by decide +kernel
theorem dL_law_346 : decode code 346 = .ok (.iload_n 3, 1) := by decide +kernel
theorem dL_law_347 : decode code 347 = .ok (.iconst 2, 1) := by decide +kernel
theorem dL_law_348 : decode code 348 = .ok (.iadd, 1) := by decide +kernel
theorem dL_law_349 : decode code 349 = .ok (.iaload, 1) := by decide +kernel
theorem dL_law_350 : decode code 350 = .ok (.invokevirtual 32, 3) := by decide +kernel
theorem dL_law_353 : decode code 353 = .ok (.if_icmp .eq 1151, 3) := by decide +kernel
theorem dL_law_358 : decode code 358 = .ok (.aload_n 1, 1) := by decide +kernel
theorem dL_law_359 : decode code 359 = .ok (.aload_n 0, 1) := by decide +kernel
theorem dL_law_360 : decode code 360 = .ok (.iload_n 3, 1) := by decide +kernel
theorem dL_law_361 : decode code 361 = .ok (.iconst 1, 1) := by decide +kernel
theorem dL_law_362 : decode code 362 = .ok (.iadd, 1) := by decide +kernel
theorem dL_law_363 : decode code 363 = .ok (.iaload, 1) := by decide +kernel
theorem dL_law_364 : decode code 364 = .ok (.aload_n 0, 1) := by decide +kernel
theorem dL_law_365 : decode code 365 = .ok (.iload_n 3, 1) := by decide +kernel
theorem dL_law_366 : decode code 366 = .ok (.iconst 2, 1) := by decide +kernel
theorem dL_law_367 : decode code 367 = .ok (.iadd, 1) := by decide +kernel
theorem dL_law_368 : decode code 368 = .ok (.iaload, 1) := by decide +kernel
theorem dL_law_369 : decode code 369 = .ok (.aload_n 0, 1) := by decide +kernel
theorem dL_law_370 : decode code 370 = .ok (.iload_n 3, 1) := by decide +kernel
theorem dL_law_371 : decode code 371 = .ok (.iconst 3, 1) := by decide +kernel
theorem dL_law_372 : decode code 372 = .ok (.iadd, 1) := by decide +kernel
theorem dL_law_373 : decode code 373 = .ok (.iaload, 1) := by decide +kernel
theorem dL_law_374 : decode code 374 = .ok (.aload_n 0, 1) := by decide +kernel
theorem dL_law_375 : decode code 375 = .ok (.iload_n 3, 1) := by decide +kernel
theorem dL_law_376 : decode code 376 = .ok (.iconst 4, 1) := by decide +kernel
theorem dL_law_377 : decode code 377 = .ok (.iadd, 1) := by decide +kernel
theorem dL_law_378 : decode code 378 = .ok (.iaload, 1) := by decide +kernel
theorem dL_law_379 : decode code 379 = .ok (.aload_n 0, 1) := by decide +kernel
theorem dL_law_380 : decode code 380 = .ok (.iload_n 3, 1) := by decide +kernel
theorem dL_law_381 : decode code 381 = .ok (.iconst 5, 1) := by decide +kernel
theorem dL_law_382 : decode code 382 = .ok (.iadd, 1) := by decide +kernel
theorem dL_law_383 : decode code 383 = .ok (.iaload, 1) := by decide +kernel
theorem dL_law_384 : decode code 384 = .ok (.invokevirtual 33, 3) := by decide +kernel
theorem dL_law_387 : decode code 387 = .ok (.aload_n 2, 1) := by decide +kernel
theorem dL_law_388 : decode code 388 = .ok (.aload_n 0, 1) := by decide +kernel
theorem dL_law_389 : decode code 389 = .ok (.iload_n 3, 1) := by decide +kernel
theorem dL_law_390 : decode code 390 = .ok (.iconst 1, 1) := by decide +kernel
theorem dL_law_391 : decode code 391 = .ok (.iadd, 1) := by decide +kernel
theorem dL_law_392 : decode code 392 = .ok (.iaload, 1) := by decide +kernel
theorem dL_law_393 : decode code 393 = .ok (.aload_n 0, 1) := by decide +kernel
theorem dL_law_394 : decode code 394 = .ok (.iload_n 3, 1) := by decide +kernel
theorem dL_law_395 : decode code 395 = .ok (.iconst 2, 1) := by decide +kernel
theorem dL_law_396 : decode code 396 = .ok (.iadd, 1) := by decide +kernel
theorem dL_law_397 : decode code 397 = .ok (.iaload, 1) := by decide +kernel
theorem dL_law_398 : decode code 398 = .ok (.aload_n 0, 1) := by decide +kernel
theorem dL_law_399 : decode code 399 = .ok (.iload_n 3, 1) := by decide +kernel
theorem dL_law_400 : decode code 400 = .ok (.iconst 3, 1) := by decide +kernel
theorem dL_law_401 : decode code 401 = .ok (.iadd, 1) := by decide +kernel
theorem dL_law_402 : decode code 402 = .ok (.iaload, 1) := by decide +kernel
theorem dL_law_403 : decode code 403 = .ok (.aload_n 0, 1) := by decide +kernel
theorem dL_law_404 : decode code 404 = .ok (.iload_n 3, 1) := by decide +kernel
theorem dL_law_405 : decode code 405 = .ok (.iconst 4, 1) := by decide +kernel
theorem dL_law_406 : decode code 406 = .ok (.iadd, 1) := by decide +kernel
theorem dL_law_407 : decode code 407 = .ok (.iaload, 1) := by decide +kernel
theorem dL_law_408 : decode code 408 = .ok (.aload_n 0, 1) := by decide +kernel
theorem dL_law_409 : decode code 409 = .ok (.iload_n 3, 1) := by decide +kernel
theorem dL_law_410 : decode code 410 = .ok (.iconst 5, 1) := by decide +kernel
theorem dL_law_411 : decode code 411 = .ok (.iadd, 1) := by decide +kernel
theorem dL_law_412 : decode code 412 = .ok (.iaload, 1) := by decide +kernel
theorem dL_law_413 : decode code 413 = .ok (.invokevirtual 37, 3) := by decide +kernel
theorem dL_law_416 : decode code 416 = .ok (.if_icmp .eq 1088, 3) := by decide +kernel
theorem dL_law_421 : decode code 421 = .ok (.aload_n 1, 1) := by decide +kernel
theorem dL_law_422 : decode code 422 = .ok (.aload_n 0, 1) := by decide +kernel
theorem dL_law_423 : decode code 423 = .ok (.iload_n 3, 1) := by decide +kernel
theorem dL_law_424 : decode code 424 = .ok (.iconst 1, 1) := by decide +kernel
theorem dL_law_425 : decode code 425 = .ok (.iadd, 1) := by decide +kernel
theorem dL_law_426 : decode code 426 = .ok (.iaload, 1) := by decide +kernel
theorem dL_law_427 : decode code 427 = .ok (.invokevirtual 38, 3) := by decide +kernel
theorem dL_law_430 : decode code 430 = .ok (.aload_n 2, 1) := by decide +kernel
theorem dL_law_431 : decode code 431 = .ok (.aload_n 0, 1) := by decide +kernel
theorem dL_law_432 : decode code 432 = .ok (.iload_n 3, 1) := by decide +kernel
theorem dL_law_433 : decode code 433 = .ok (.iconst 1, 1) := by decide +kernel
theorem dL_law_434 : decode code 434 = .ok (.iadd, 1) := by decide +kernel
theorem dL_law_435 : decode code 435 = .ok (.iaload, 1) := by decide +kernel
theorem dL_law_436 : decode code 436 = .ok (.invokevirtual 42, 3) := by decide +kernel
theorem dL_law_439 : decode code 439 = .ok (.if_icmp .eq 1065, 3) := by decide +kernel
theorem dL_law_444 : decode code 444 = .ok (.aload_n 1, 1) := by decide +kernel
theorem dL_law_445 : decode code 445 = .ok (.aload_n 0, 1) := by decide +kernel
theorem dL_law_446 : decode code 446 = .ok (.iload_n 3, 1) := by decide +kernel
theorem dL_law_447 : decode code 447 = .ok (.iconst 1, 1) := by decide +kernel
theorem dL_law_448 : decode code 448 = .ok (.iadd, 1) := by decide +kernel
theorem dL_law_449 : decode code 449 = .ok (.iaload, 1) := by decide +kernel
theorem dL_law_450 : decode code 450 = .ok (.aload_n 0, 1) := by decide +kernel
theorem dL_law_451 : decode code 451 = .ok (.iload_n 3, 1) := by decide +kernel
theorem dL_law_452 : decode code 452 = .ok (.iconst 2, 1) := by decide +kernel
theorem dL_law_453 : decode code 453 = .ok (.iadd, 1) := by decide +kernel
theorem dL_law_454 : decode code 454 = .ok (.iaload, 1) := by decide +kernel
theorem dL_law_455 : decode code 455 = .ok (.invokevirtual 43, 3) := by decide +kernel
theorem dL_law_458 : decode code 458 = .ok (.aload_n 2, 1) := by decide +kernel
theorem dL_law_459 : decode code 459 = .ok (.aload_n 0, 1) := by decide +kernel
theorem dL_law_460 : decode code 460 = .ok (.iload_n 3, 1) := by decide +kernel
theorem dL_law_461 : decode code 461 = .ok (.iconst 1, 1) := by decide +kernel
theorem dL_law_462 : decode code 462 = .ok (.iadd, 1) := by decide +kernel
theorem dL_law_463 : decode code 463 = .ok (.iaload, 1) := by decide +kernel
theorem dL_law_464 : decode code 464 = .ok (.aload_n 0, 1) := by decide +kernel
theorem dL_law_465 : decode code 465 = .ok (.iload_n 3, 1) := by decide +kernel
theorem dL_law_466 : decode code 466 = .ok (.iconst 2, 1) := by decide +kernel
theorem dL_law_467 : decode code 467 = .ok (.iadd, 1) := by decide +kernel
theorem dL_law_468 : decode code 468 = .ok (.iaload, 1) := by decide +kernel
theorem dL_law_469 : decode code 469 = .ok (.invokevirtual 46, 3) := by decide +kernel
theorem dL_law_472 : decode code 472 = .ok (.if_icmp .eq 1032, 3) := by decide +kernel
theorem dL_law_477 : decode code 477 = .ok (.aload_n 1, 1) := by decide +kernel
theorem dL_law_478 : decode code 478 = .ok (.aload_n 0, 1) := by decide +kernel
theorem dL_law_479 : decode code 479 = .ok (.iload_n 3, 1) := by decide +kernel
theorem dL_law_480 : decode code 480 = .ok (.iconst 1, 1) := by decide +kernel
theorem dL_law_481 : decode code 481 = .ok (.iadd, 1) := by decide +kernel
theorem dL_law_482 : decode code 482 = .ok (.iaload, 1) := by decide +kernel
theorem dL_law_483 : decode code 483 = .ok (.invokevirtual 47, 3) := by decide +kernel
theorem dL_law_486 : decode code 486 = .ok (.aload_n 2, 1) := by decide +kernel
theorem dL_law_487 : decode code 487 = .ok (.aload_n 0, 1) := by decide +kernel
theorem dL_law_488 : decode code 488 = .ok (.iload_n 3, 1) := by decide +kernel
theorem dL_law_489 : decode code 489 = .ok (.iconst 1, 1) := by decide +kernel
theorem dL_law_490 : decode code 490 = .ok (.iadd, 1) := by decide +kernel
theorem dL_law_491 : decode code 491 = .ok (.iaload, 1) := by decide +kernel
theorem dL_law_492 : decode code 492 = .ok (.invokevirtual 50, 3) := by decide +kernel
theorem dL_law_495 : decode code 495 = .ok (.if_icmp .eq 1009, 3) := by decide +kernel
theorem dL_law_500 : decode code 500 = .ok (.aload_n 1, 1) := by decide +kernel
theorem dL_law_501 : decode code 501 = .ok (.aload_n 0, 1) := by decide +kernel
theorem dL_law_502 : decode code 502 = .ok (.iload_n 3, 1) := by decide +kernel
theorem dL_law_503 : decode code 503 = .ok (.iconst 1, 1) := by decide +kernel
theorem dL_law_504 : decode code 504 = .ok (.iadd, 1) := by decide +kernel
theorem dL_law_505 : decode code 505 = .ok (.iaload, 1) := by decide +kernel
theorem dL_law_506 : decode code 506 = .ok (.aload_n 0, 1) := by decide +kernel
theorem dL_law_507 : decode code 507 = .ok (.iload_n 3, 1) := by decide +kernel
theorem dL_law_508 : decode code 508 = .ok (.iconst 2, 1) := by decide +kernel
theorem dL_law_509 : decode code 509 = .ok (.iadd, 1) := by decide +kernel
theorem dL_law_510 : decode code 510 = .ok (.iaload, 1) := by decide +kernel
theorem dL_law_511 : decode code 511 = .ok (.invokevirtual 51, 3) := by decide +kernel
theorem dL_law_514 : decode code 514 = .ok (.aload_n 2, 1) := by decide +kernel
theorem dL_law_515 : decode code 515 = .ok (.aload_n 0, 1) := by decide +kernel
theorem dL_law_516 : decode code 516 = .ok (.iload_n 3, 1) := by decide +kernel
theorem dL_law_517 : decode code 517 = .ok (.iconst 1, 1) := by decide +kernel
theorem dL_law_518 : decode code 518 = .ok (.iadd, 1) := by decide +kernel
theorem dL_law_519 : decode code 519 = .ok (.iaload, 1) := by decide +kernel
theorem dL_law_520 : decode code 520 = .ok (.aload_n 0, 1) := by decide +kernel
theorem dL_law_521 : decode code 521 = .ok (.iload_n 3, 1) := by decide +kernel
theorem dL_law_522 : decode code 522 = .ok (.iconst 2, 1) := by decide +kernel
theorem dL_law_523 : decode code 523 = .ok (.iadd, 1) := by decide +kernel
theorem dL_law_524 : decode code 524 = .ok (.iaload, 1) := by decide +kernel
theorem dL_law_525 : decode code 525 = .ok (.invokevirtual 54, 3) := by decide +kernel
theorem dL_law_528 : decode code 528 = .ok (.if_icmp .eq 976, 3) := by decide +kernel
theorem dL_law_533 : decode code 533 = .ok (.aload_n 1, 1) := by decide +kernel
theorem dL_law_534 : decode code 534 = .ok (.aload_n 0, 1) := by decide +kernel
theorem dL_law_535 : decode code 535 = .ok (.iload_n 3, 1) := by decide +kernel
theorem dL_law_536 : decode code 536 = .ok (.iconst 1, 1) := by decide +kernel
theorem dL_law_537 : decode code 537 = .ok (.iadd, 1) := by decide +kernel
theorem dL_law_538 : decode code 538 = .ok (.iaload, 1) := by decide +kernel
theorem dL_law_539 : decode code 539 = .ok (.aload_n 0, 1) := by decide +kernel
theorem dL_law_540 : decode code 540 = .ok (.iload_n 3, 1) := by decide +kernel
theorem dL_law_541 : decode code 541 = .ok (.iconst 2, 1) := by decide +kernel
theorem dL_law_542 : decode code 542 = .ok (.iadd, 1) := by decide +kernel
theorem dL_law_543 : decode code 543 = .ok (.iaload, 1) := by decide +kernel
theorem dL_law_544 : decode code 544 = .ok (.invokevirtual 55, 3) := by decide +kernel
theorem dL_law_547 : decode code 547 = .ok (.aload_n 2, 1) := by decide +kernel
theorem dL_law_548 : decode code 548 = .ok (.aload_n 0, 1) := by decide +kernel
theorem dL_law_549 : decode code 549 = .ok (.iload_n 3, 1) := by decide +kernel
theorem dL_law_550 : decode code 550 = .ok (.iconst 1, 1) := by decide +kernel
theorem dL_law_551 : decode code 551 = .ok (.iadd, 1) := by decide +kernel
theorem dL_law_552 : decode code 552 = .ok (.iaload, 1) := by decide +kernel
theorem dL_law_553 : decode code 553 = .ok (.aload_n 0, 1) := by decide +kernel
theorem dL_law_554 : decode code 554 = .ok (.iload_n 3, 1) := by decide +kernel
theorem dL_law_555 : decode code 555 = .ok (.iconst 2, 1) := by decide +kernel
theorem dL_law_556 : decode code 556 = .ok (.iadd, 1) := by decide +kernel
theorem dL_law_557 : decode code 557 = .ok (.iaload, 1) := by decide +kernel
theorem dL_law_558 : decode code 558 = .ok (.invokevirtual 58, 3) := by decide +kernel
theorem dL_law_561 : decode code 561 = .ok (.if_icmp .eq 943, 3) := by decide +kernel
theorem dL_law_566 : decode code 566 = .ok (.aload_n 1, 1) := by decide +kernel
theorem dL_law_567 : decode code 567 = .ok (.aload_n 0, 1) := by decide +kernel
theorem dL_law_568 : decode code 568 = .ok (.iload_n 3, 1) := by decide +kernel
theorem dL_law_569 : decode code 569 = .ok (.iconst 1, 1) := by decide +kernel
theorem dL_law_570 : decode code 570 = .ok (.iadd, 1) := by decide +kernel
theorem dL_law_571 : decode code 571 = .ok (.iaload, 1) := by decide +kernel
theorem dL_law_572 : decode code 572 = .ok (.aload_n 0, 1) := by decide +kernel
theorem dL_law_573 : decode code 573 = .ok (.iload_n 3, 1) := by decide +kernel
theorem dL_law_574 : decode code 574 = .ok (.iconst 2, 1) := by decide +kernel
theorem dL_law_575 : decode code 575 = .ok (.iadd, 1) := by decide +kernel
theorem dL_law_576 : decode code 576 = .ok (.iaload, 1) := by decide +kernel
theorem dL_law_577 : decode code 577 = .ok (.invokevirtual 59, 3) := by decide +kernel
theorem dL_law_580 : decode code 580 = .ok (.aload_n 2, 1) := by decide +kernel
theorem dL_law_581 : decode code 581 = .ok (.aload_n 0, 1) := by decide +kernel
theorem dL_law_582 : decode code 582 = .ok (.iload_n 3, 1) := by decide +kernel
theorem dL_law_583 : decode code 583 = .ok (.iconst 1, 1) := by decide +kernel
theorem dL_law_584 : decode code 584 = .ok (.iadd, 1) := by decide +kernel
theorem dL_law_585 : decode code 585 = .ok (.iaload, 1) := by decide +kernel
theorem dL_law_586 : decode code 586 = .ok (.aload_n 0, 1) := by decide +kernel
theorem dL_law_587 : decode code 587 = .ok (.iload_n 3, 1) := by decide +kernel
theorem dL_law_588 : decode code 588 = .ok (.iconst 2, 1) := by decide +kernel
theorem dL_law_589 : decode code 589 = .ok (.iadd, 1) := by decide +kernel
theorem dL_law_590 : decode code 590 = .ok (.iaload, 1) := by decide +kernel
theorem dL_law_591 : decode code 591 = .ok (.invokevirtual 62, 3) := by decide +kernel
theorem dL_law_594 : decode code 594 = .ok (.if_icmp .eq 910, 3) := by decide +kernel
theorem dL_law_599 : decode code 599 = .ok (.aload_n 1, 1) := by decide +kernel
theorem dL_law_600 : decode code 600 = .ok (.aload_n 0, 1) := by decide +kernel
theorem dL_law_601 : decode code 601 = .ok (.iload_n 3, 1) := by decide +kernel
theorem dL_law_602 : decode code 602 = .ok (.iconst 1, 1) := by decide +kernel
theorem dL_law_603 : decode code 603 = .ok (.iadd, 1) := by decide +kernel
theorem dL_law_604 : decode code 604 = .ok (.iaload, 1) := by decide +kernel
theorem dL_law_605 : decode code 605 = .ok (.aload_n 0, 1) := by decide +kernel
theorem dL_law_606 : decode code 606 = .ok (.iload_n 3, 1) := by decide +kernel
theorem dL_law_607 : decode code 607 = .ok (.iconst 2, 1) := by decide +kernel
theorem dL_law_608 : decode code 608 = .ok (.iadd, 1) := by decide +kernel
theorem dL_law_609 : decode code 609 = .ok (.iaload, 1) := by decide +kernel
theorem dL_law_610 : decode code 610 = .ok (.aload_n 0, 1) := by decide +kernel
theorem dL_law_611 : decode code 611 = .ok (.iload_n 3, 1) := by decide +kernel
theorem dL_law_612 : decode code 612 = .ok (.iconst 3, 1) := by decide +kernel
theorem dL_law_613 : decode code 613 = .ok (.iadd, 1) := by decide +kernel
theorem dL_law_614 : decode code 614 = .ok (.iaload, 1) := by decide +kernel
theorem dL_law_615 : decode code 615 = .ok (.aload_n 0, 1) := by decide +kernel
theorem dL_law_616 : decode code 616 = .ok (.iload_n 3, 1) := by decide +kernel
theorem dL_law_617 : decode code 617 = .ok (.iconst 4, 1) := by decide +kernel
theorem dL_law_618 : decode code 618 = .ok (.iadd, 1) := by decide +kernel
theorem dL_law_619 : decode code 619 = .ok (.iaload, 1) := by decide +kernel
theorem dL_law_620 : decode code 620 = .ok (.invokevirtual 63, 3) := by decide +kernel
theorem dL_law_623 : decode code 623 = .ok (.aload_n 2, 1) := by decide +kernel
theorem dL_law_624 : decode code 624 = .ok (.aload_n 0, 1) := by decide +kernel
theorem dL_law_625 : decode code 625 = .ok (.iload_n 3, 1) := by decide +kernel
theorem dL_law_626 : decode code 626 = .ok (.iconst 1, 1) := by decide +kernel
theorem dL_law_627 : decode code 627 = .ok (.iadd, 1) := by decide +kernel
theorem dL_law_628 : decode code 628 = .ok (.iaload, 1) := by decide +kernel
theorem dL_law_629 : decode code 629 = .ok (.aload_n 0, 1) := by decide +kernel
theorem dL_law_630 : decode code 630 = .ok (.iload_n 3, 1) := by decide +kernel
theorem dL_law_631 : decode code 631 = .ok (.iconst 2, 1) := by decide +kernel
theorem dL_law_632 : decode code 632 = .ok (.iadd, 1) := by decide +kernel
theorem dL_law_633 : decode code 633 = .ok (.iaload, 1) := by decide +kernel
theorem dL_law_634 : decode code 634 = .ok (.aload_n 0, 1) := by decide +kernel
theorem dL_law_635 : decode code 635 = .ok (.iload_n 3, 1) := by decide +kernel
theorem dL_law_636 : decode code 636 = .ok (.iconst 3, 1) := by decide +kernel
theorem dL_law_637 : decode code 637 = .ok (.iadd, 1) := by decide +kernel
theorem dL_law_638 : decode code 638 = .ok (.iaload, 1) := by decide +kernel
theorem dL_law_639 : decode code 639 = .ok (.aload_n 0, 1) := by decide +kernel
theorem dL_law_640 : decode code 640 = .ok (.iload_n 3, 1) := by decide +kernel
theorem dL_law_641 : decode code 641 = .ok (.iconst 4, 1) := by decide +kernel
theorem dL_law_642 : decode code 642 = .ok (.iadd, 1) := by decide +kernel
theorem dL_law_643 : decode code 643 = .ok (.iaload, 1) := by decide +kernel
theorem dL_law_644 : decode code 644 = .ok (.invokevirtual 67, 3) := by decide +kernel
theorem dL_law_647 : decode code 647 = .ok (.lcmp, 1) := by decide +kernel
theorem dL_law_648 : decode code 648 = .ok (.ifCond .eq 856, 3) := by decide +kernel
theorem dL_law_653 : decode code 653 = .ok (.aload_n 1, 1) := by decide +kernel
theorem dL_law_654 : decode code 654 = .ok (.aload_n 0, 1) := by decide +kernel
theorem dL_law_655 : decode code 655 = .ok (.iload_n 3, 1) := by decide +kernel
theorem dL_law_656 : decode code 656 = .ok (.iconst 1, 1) := by decide +kernel
theorem dL_law_657 : decode code 657 = .ok (.iadd, 1) := by decide +kernel
theorem dL_law_658 : decode code 658 = .ok (.iaload, 1) := by decide +kernel
theorem dL_law_659 : decode code 659 = .ok (.aload_n 0, 1) := by decide +kernel
theorem dL_law_660 : decode code 660 = .ok (.iload_n 3, 1) := by decide +kernel
theorem dL_law_661 : decode code 661 = .ok (.iconst 2, 1) := by decide +kernel
theorem dL_law_662 : decode code 662 = .ok (.iadd, 1) := by decide +kernel
theorem dL_law_663 : decode code 663 = .ok (.iaload, 1) := by decide +kernel
theorem dL_law_664 : decode code 664 = .ok (.aload_n 0, 1) := by decide +kernel
theorem dL_law_665 : decode code 665 = .ok (.iload_n 3, 1) := by decide +kernel
theorem dL_law_666 : decode code 666 = .ok (.iconst 3, 1) := by decide +kernel
theorem dL_law_667 : decode code 667 = .ok (.iadd, 1) := by decide +kernel
theorem dL_law_668 : decode code 668 = .ok (.iaload, 1) := by decide +kernel
theorem dL_law_669 : decode code 669 = .ok (.aload_n 0, 1) := by decide +kernel
theorem dL_law_670 : decode code 670 = .ok (.iload_n 3, 1) := by decide +kernel
theorem dL_law_671 : decode code 671 = .ok (.iconst 4, 1) := by decide +kernel
theorem dL_law_672 : decode code 672 = .ok (.iadd, 1) := by decide +kernel
theorem dL_law_673 : decode code 673 = .ok (.iaload, 1) := by decide +kernel
theorem dL_law_674 : decode code 674 = .ok (.invokevirtual 68, 3) := by decide +kernel
theorem dL_law_677 : decode code 677 = .ok (.aload_n 2, 1) := by decide +kernel
theorem dL_law_678 : decode code 678 = .ok (.aload_n 0, 1) := by decide +kernel
theorem dL_law_679 : decode code 679 = .ok (.iload_n 3, 1) := by decide +kernel
theorem dL_law_680 : decode code 680 = .ok (.iconst 1, 1) := by decide +kernel
theorem dL_law_681 : decode code 681 = .ok (.iadd, 1) := by decide +kernel
theorem dL_law_682 : decode code 682 = .ok (.iaload, 1) := by decide +kernel
theorem dL_law_683 : decode code 683 = .ok (.aload_n 0, 1) := by decide +kernel
theorem dL_law_684 : decode code 684 = .ok (.iload_n 3, 1) := by decide +kernel
theorem dL_law_685 : decode code 685 = .ok (.iconst 2, 1) := by decide +kernel
theorem dL_law_686 : decode code 686 = .ok (.iadd, 1) := by decide +kernel
theorem dL_law_687 : decode code 687 = .ok (.iaload, 1) := by decide +kernel
theorem dL_law_688 : decode code 688 = .ok (.aload_n 0, 1) := by decide +kernel
theorem dL_law_689 : decode code 689 = .ok (.iload_n 3, 1) := by decide +kernel
theorem dL_law_690 : decode code 690 = .ok (.iconst 3, 1) := by decide +kernel
theorem dL_law_691 : decode code 691 = .ok (.iadd, 1) := by decide +kernel
theorem dL_law_692 : decode code 692 = .ok (.iaload, 1) := by decide +kernel
theorem dL_law_693 : decode code 693 = .ok (.aload_n 0, 1) := by decide +kernel
theorem dL_law_694 : decode code 694 = .ok (.iload_n 3, 1) := by decide +kernel
theorem dL_law_695 : decode code 695 = .ok (.iconst 4, 1) := by decide +kernel
theorem dL_law_696 : decode code 696 = .ok (.iadd, 1) := by decide +kernel
theorem dL_law_697 : decode code 697 = .ok (.iaload, 1) := by decide +kernel
theorem dL_law_698 : decode code 698 = .ok (.invokevirtual 71, 3) := by decide +kernel
theorem dL_law_701 : decode code 701 = .ok (.lcmp, 1) := by decide +kernel
theorem dL_law_702 : decode code 702 = .ok (.ifCond .eq 802, 3) := by decide +kernel
theorem dL_law_707 : decode code 707 = .ok (.aload_n 1, 1) := by decide +kernel
theorem dL_law_708 : decode code 708 = .ok (.aload_n 0, 1) := by decide +kernel
theorem dL_law_709 : decode code 709 = .ok (.iload_n 3, 1) := by decide +kernel
theorem dL_law_710 : decode code 710 = .ok (.iconst 1, 1) := by decide +kernel
theorem dL_law_711 : decode code 711 = .ok (.iadd, 1) := by decide +kernel
theorem dL_law_712 : decode code 712 = .ok (.iaload, 1) := by decide +kernel
theorem dL_law_713 : decode code 713 = .ok (.aload_n 0, 1) := by decide +kernel
theorem dL_law_714 : decode code 714 = .ok (.iload_n 3, 1) := by decide +kernel
theorem dL_law_715 : decode code 715 = .ok (.iconst 2, 1) := by decide +kernel
theorem dL_law_716 : decode code 716 = .ok (.iadd, 1) := by decide +kernel
theorem dL_law_717 : decode code 717 = .ok (.iaload, 1) := by decide +kernel
theorem dL_law_718 : decode code 718 = .ok (.aload_n 0, 1) := by decide +kernel
theorem dL_law_719 : decode code 719 = .ok (.iload_n 3, 1) := by decide +kernel
theorem dL_law_720 : decode code 720 = .ok (.iconst 3, 1) := by decide +kernel
theorem dL_law_721 : decode code 721 = .ok (.iadd, 1) := by decide +kernel
theorem dL_law_722 : decode code 722 = .ok (.iaload, 1) := by decide +kernel
theorem dL_law_723 : decode code 723 = .ok (.aload_n 0, 1) := by decide +kernel
theorem dL_law_724 : decode code 724 = .ok (.iload_n 3, 1) := by decide +kernel
theorem dL_law_725 : decode code 725 = .ok (.iconst 4, 1) := by decide +kernel
theorem dL_law_726 : decode code 726 = .ok (.iadd, 1) := by decide +kernel
theorem dL_law_727 : decode code 727 = .ok (.iaload, 1) := by decide +kernel
theorem dL_law_728 : decode code 728 = .ok (.invokevirtual 72, 3) := by decide +kernel
theorem dL_law_731 : decode code 731 = .ok (.aload_n 2, 1) := by decide +kernel
theorem dL_law_732 : decode code 732 = .ok (.aload_n 0, 1) := by decide +kernel
theorem dL_law_733 : decode code 733 = .ok (.iload_n 3, 1) := by decide +kernel
theorem dL_law_734 : decode code 734 = .ok (.iconst 1, 1) := by decide +kernel
theorem dL_law_735 : decode code 735 = .ok (.iadd, 1) := by decide +kernel
theorem dL_law_736 : decode code 736 = .ok (.iaload, 1) := by decide +kernel
theorem dL_law_737 : decode code 737 = .ok (.aload_n 0, 1) := by decide +kernel
theorem dL_law_738 : decode code 738 = .ok (.iload_n 3, 1) := by decide +kernel
theorem dL_law_739 : decode code 739 = .ok (.iconst 2, 1) := by decide +kernel
theorem dL_law_740 : decode code 740 = .ok (.iadd, 1) := by decide +kernel
theorem dL_law_741 : decode code 741 = .ok (.iaload, 1) := by decide +kernel
theorem dL_law_742 : decode code 742 = .ok (.aload_n 0, 1) := by decide +kernel
theorem dL_law_743 : decode code 743 = .ok (.iload_n 3, 1) := by decide +kernel
theorem dL_law_744 : decode code 744 = .ok (.iconst 3, 1) := by decide +kernel
theorem dL_law_745 : decode code 745 = .ok (.iadd, 1) := by decide +kernel
theorem dL_law_746 : decode code 746 = .ok (.iaload, 1) := by decide +kernel
theorem dL_law_747 : decode code 747 = .ok (.aload_n 0, 1) := by decide +kernel
theorem dL_law_748 : decode code 748 = .ok (.iload_n 3, 1) := by decide +kernel
theorem dL_law_749 : decode code 749 = .ok (.iconst 4, 1) := by decide +kernel
theorem dL_law_750 : decode code 750 = .ok (.iadd, 1) := by decide +kernel
theorem dL_law_751 : decode code 751 = .ok (.iaload, 1) := by decide +kernel
theorem dL_law_752 : decode code 752 = .ok (.invokevirtual 75, 3) := by decide +kernel
theorem dL_law_755 : decode code 755 = .ok (.lcmp, 1) := by decide +kernel
theorem dL_law_756 : decode code 756 = .ok (.ifCond .eq 748, 3) := by decide +kernel
theorem dL_law_761 : decode code 761 = .ok (.aload_n 1, 1) := by decide +kernel
theorem dL_law_762 : decode code 762 = .ok (.aload_n 0, 1) := by decide +kernel
theorem dL_law_763 : decode code 763 = .ok (.iload_n 3, 1) := by decide +kernel
theorem dL_law_764 : decode code 764 = .ok (.iconst 1, 1) := by decide +kernel
theorem dL_law_765 : decode code 765 = .ok (.iadd, 1) := by decide +kernel
theorem dL_law_766 : decode code 766 = .ok (.iaload, 1) := by decide +kernel
theorem dL_law_767 : decode code 767 = .ok (.aload_n 0, 1) := by decide +kernel
theorem dL_law_768 : decode code 768 = .ok (.iload_n 3, 1) := by decide +kernel
theorem dL_law_769 : decode code 769 = .ok (.iconst 2, 1) := by decide +kernel
theorem dL_law_770 : decode code 770 = .ok (.iadd, 1) := by decide +kernel
theorem dL_law_771 : decode code 771 = .ok (.iaload, 1) := by decide +kernel
theorem dL_law_772 : decode code 772 = .ok (.aload_n 0, 1) := by decide +kernel
theorem dL_law_773 : decode code 773 = .ok (.iload_n 3, 1) := by decide +kernel
theorem dL_law_774 : decode code 774 = .ok (.iconst 3, 1) := by decide +kernel
theorem dL_law_775 : decode code 775 = .ok (.iadd, 1) := by decide +kernel
theorem dL_law_776 : decode code 776 = .ok (.iaload, 1) := by decide +kernel
theorem dL_law_777 : decode code 777 = .ok (.aload_n 0, 1) := by decide +kernel
theorem dL_law_778 : decode code 778 = .ok (.iload_n 3, 1) := by decide +kernel
theorem dL_law_779 : decode code 779 = .ok (.iconst 4, 1) := by decide +kernel
theorem dL_law_780 : decode code 780 = .ok (.iadd, 1) := by decide +kernel
theorem dL_law_781 : decode code 781 = .ok (.iaload, 1) := by decide +kernel
theorem dL_law_782 : decode code 782 = .ok (.invokevirtual 76, 3) := by decide +kernel
theorem dL_law_785 : decode code 785 = .ok (.aload_n 2, 1) := by decide +kernel
theorem dL_law_786 : decode code 786 = .ok (.aload_n 0, 1) := by decide +kernel
theorem dL_law_787 : decode code 787 = .ok (.iload_n 3, 1) := by decide +kernel
theorem dL_law_788 : decode code 788 = .ok (.iconst 1, 1) := by decide +kernel
theorem dL_law_789 : decode code 789 = .ok (.iadd, 1) := by decide +kernel
theorem dL_law_790 : decode code 790 = .ok (.iaload, 1) := by decide +kernel
theorem dL_law_791 : decode code 791 = .ok (.aload_n 0, 1) := by decide +kernel
theorem dL_law_792 : decode code 792 = .ok (.iload_n 3, 1) := by decide +kernel
theorem dL_law_793 : decode code 793 = .ok (.iconst 2, 1) := by decide +kernel
theorem dL_law_794 : decode code 794 = .ok (.iadd, 1) := by decide +kernel
theorem dL_law_795 : decode code 795 = .ok (.iaload, 1) := by decide +kernel
theorem dL_law_796 : decode code 796 = .ok (.aload_n 0, 1) := by decide +kernel
theorem dL_law_797 : decode code 797 = .ok (.iload_n 3, 1) := by decide +kernel
theorem dL_law_798 : decode code 798 = .ok (.iconst 3, 1) := by decide +kernel
theorem dL_law_799 : decode code 799 = .ok (.iadd, 1) := by decide +kernel
theorem dL_law_800 : decode code 800 = .ok (.iaload, 1) := by decide +kernel
theorem dL_law_801 : decode code 801 = .ok (.aload_n 0, 1) := by decide +kernel
theorem dL_law_802 : decode code 802 = .ok (.iload_n 3, 1) := by decide +kernel
theorem dL_law_803 : decode code 803 = .ok (.iconst 4, 1) := by decide +kernel
theorem dL_law_804 : decode code 804 = .ok (.iadd, 1) := by decide +kernel
theorem dL_law_805 : decode code 805 = .ok (.iaload, 1) := by decide +kernel
theorem dL_law_806 : decode code 806 = .ok (.invokevirtual 80, 3) := by decide +kernel
theorem dL_law_809 : decode code 809 = .ok (.if_icmp .eq 695, 3) := by decide +kernel
theorem dL_law_814 : decode code 814 = .ok (.aload_n 1, 1) := by decide +kernel
theorem dL_law_815 : decode code 815 = .ok (.aload_n 0, 1) := by decide +kernel
theorem dL_law_816 : decode code 816 = .ok (.iload_n 3, 1) := by decide +kernel
theorem dL_law_817 : decode code 817 = .ok (.iconst 1, 1) := by decide +kernel
theorem dL_law_818 : decode code 818 = .ok (.iadd, 1) := by decide +kernel
theorem dL_law_819 : decode code 819 = .ok (.iaload, 1) := by decide +kernel
theorem dL_law_820 : decode code 820 = .ok (.aload_n 0, 1) := by decide +kernel
theorem dL_law_821 : decode code 821 = .ok (.iload_n 3, 1) := by decide +kernel
theorem dL_law_822 : decode code 822 = .ok (.iconst 2, 1) := by decide +kernel
theorem dL_law_823 : decode code 823 = .ok (.iadd, 1) := by decide +kernel
theorem dL_law_824 : decode code 824 = .ok (.iaload, 1) := by decide +kernel
theorem dL_law_825 : decode code 825 = .ok (.aload_n 0, 1) := by decide +kernel
theorem dL_law_826 : decode code 826 = .ok (.iload_n 3, 1) := by decide +kernel
theorem dL_law_827 : decode code 827 = .ok (.iconst 3, 1) := by decide +kernel
theorem dL_law_828 : decode code 828 = .ok (.iadd, 1) := by decide +kernel
theorem dL_law_829 : decode code 829 = .ok (.iaload, 1) := by decide +kernel
theorem dL_law_830 : decode code 830 = .ok (.aload_n 0, 1) := by decide +kernel
theorem dL_law_831 : decode code 831 = .ok (.iload_n 3, 1) := by decide +kernel
theorem dL_law_832 : decode code 832 = .ok (.iconst 4, 1) := by decide +kernel
theorem dL_law_833 : decode code 833 = .ok (.iadd, 1) := by decide +kernel
theorem dL_law_834 : decode code 834 = .ok (.iaload, 1) := by decide +kernel
theorem dL_law_835 : decode code 835 = .ok (.invokevirtual 81, 3) := by decide +kernel
theorem dL_law_838 : decode code 838 = .ok (.aload_n 2, 1) := by decide +kernel
theorem dL_law_839 : decode code 839 = .ok (.aload_n 0, 1) := by decide +kernel
theorem dL_law_840 : decode code 840 = .ok (.iload_n 3, 1) := by decide +kernel
theorem dL_law_841 : decode code 841 = .ok (.iconst 1, 1) := by decide +kernel
theorem dL_law_842 : decode code 842 = .ok (.iadd, 1) := by decide +kernel
theorem dL_law_843 : decode code 843 = .ok (.iaload, 1) := by decide +kernel
theorem dL_law_844 : decode code 844 = .ok (.aload_n 0, 1) := by decide +kernel
theorem dL_law_845 : decode code 845 = .ok (.iload_n 3, 1) := by decide +kernel
theorem dL_law_846 : decode code 846 = .ok (.iconst 2, 1) := by decide +kernel
theorem dL_law_847 : decode code 847 = .ok (.iadd, 1) := by decide +kernel
theorem dL_law_848 : decode code 848 = .ok (.iaload, 1) := by decide +kernel
theorem dL_law_849 : decode code 849 = .ok (.aload_n 0, 1) := by decide +kernel
theorem dL_law_850 : decode code 850 = .ok (.iload_n 3, 1) := by decide +kernel
theorem dL_law_851 : decode code 851 = .ok (.iconst 3, 1) := by decide +kernel
theorem dL_law_852 : decode code 852 = .ok (.iadd, 1) := by decide +kernel
theorem dL_law_853 : decode code 853 = .ok (.iaload, 1) := by decide +kernel
theorem dL_law_854 : decode code 854 = .ok (.aload_n 0, 1) := by decide +kernel
theorem dL_law_855 : decode code 855 = .ok (.iload_n 3, 1) := by decide +kernel
theorem dL_law_856 : decode code 856 = .ok (.iconst 4, 1) := by decide +kernel
theorem dL_law_857 : decode code 857 = .ok (.iadd, 1) := by decide +kernel
theorem dL_law_858 : decode code 858 = .ok (.iaload, 1) := by decide +kernel
theorem dL_law_859 : decode code 859 = .ok (.invokevirtual 84, 3) := by decide +kernel
theorem dL_law_862 : decode code 862 = .ok (.lcmp, 1) := by decide +kernel
theorem dL_law_863 : decode code 863 = .ok (.ifCond .eq 641, 3) := by decide +kernel
theorem dL_law_868 : decode code 868 = .ok (.aload_n 1, 1) := by decide +kernel
theorem dL_law_869 : decode code 869 = .ok (.aload_n 0, 1) := by decide +kernel
theorem dL_law_870 : decode code 870 = .ok (.iload_n 3, 1) := by decide +kernel
theorem dL_law_871 : decode code 871 = .ok (.iconst 1, 1) := by decide +kernel
theorem dL_law_872 : decode code 872 = .ok (.iadd, 1) := by decide +kernel
theorem dL_law_873 : decode code 873 = .ok (.iaload, 1) := by decide +kernel
theorem dL_law_874 : decode code 874 = .ok (.aload_n 0, 1) := by decide +kernel
theorem dL_law_875 : decode code 875 = .ok (.iload_n 3, 1) := by decide +kernel
theorem dL_law_876 : decode code 876 = .ok (.iconst 2, 1) := by decide +kernel
theorem dL_law_877 : decode code 877 = .ok (.iadd, 1) := by decide +kernel
theorem dL_law_878 : decode code 878 = .ok (.iaload, 1) := by decide +kernel
theorem dL_law_879 : decode code 879 = .ok (.aload_n 0, 1) := by decide +kernel
theorem dL_law_880 : decode code 880 = .ok (.iload_n 3, 1) := by decide +kernel
theorem dL_law_881 : decode code 881 = .ok (.iconst 3, 1) := by decide +kernel
theorem dL_law_882 : decode code 882 = .ok (.iadd, 1) := by decide +kernel
theorem dL_law_883 : decode code 883 = .ok (.iaload, 1) := by decide +kernel
theorem dL_law_884 : decode code 884 = .ok (.aload_n 0, 1) := by decide +kernel
theorem dL_law_885 : decode code 885 = .ok (.iload_n 3, 1) := by decide +kernel
theorem dL_law_886 : decode code 886 = .ok (.iconst 4, 1) := by decide +kernel
theorem dL_law_887 : decode code 887 = .ok (.iadd, 1) := by decide +kernel
theorem dL_law_888 : decode code 888 = .ok (.iaload, 1) := by decide +kernel
theorem dL_law_889 : decode code 889 = .ok (.aload_n 0, 1) := by decide +kernel
theorem dL_law_890 : decode code 890 = .ok (.iload_n 3, 1) := by decide +kernel
theorem dL_law_891 : decode code 891 = .ok (.iconst 5, 1) := by decide +kernel
theorem dL_law_892 : decode code 892 = .ok (.iadd, 1) := by decide +kernel
theorem dL_law_893 : decode code 893 = .ok (.iaload, 1) := by decide +kernel
theorem dL_law_894 : decode code 894 = .ok (.invokevirtual 85, 3) := by decide +kernel
theorem dL_law_897 : decode code 897 = .ok (.aload_n 2, 1) := by decide +kernel
theorem dL_law_898 : decode code 898 = .ok (.aload_n 0, 1) := by decide +kernel
theorem dL_law_899 : decode code 899 = .ok (.iload_n 3, 1) := by decide +kernel
theorem dL_law_900 : decode code 900 = .ok (.iconst 1, 1) := by decide +kernel
theorem dL_law_901 : decode code 901 = .ok (.iadd, 1) := by decide +kernel
theorem dL_law_902 : decode code 902 = .ok (.iaload, 1) := by decide +kernel
theorem dL_law_903 : decode code 903 = .ok (.aload_n 0, 1) := by decide +kernel
theorem dL_law_904 : decode code 904 = .ok (.iload_n 3, 1) := by decide +kernel
theorem dL_law_905 : decode code 905 = .ok (.iconst 2, 1) := by decide +kernel
theorem dL_law_906 : decode code 906 = .ok (.iadd, 1) := by decide +kernel
theorem dL_law_907 : decode code 907 = .ok (.iaload, 1) := by decide +kernel
theorem dL_law_908 : decode code 908 = .ok (.aload_n 0, 1) := by decide +kernel
theorem dL_law_909 : decode code 909 = .ok (.iload_n 3, 1) := by decide +kernel
theorem dL_law_910 : decode code 910 = .ok (.iconst 3, 1) := by decide +kernel
theorem dL_law_911 : decode code 911 = .ok (.iadd, 1) := by decide +kernel
theorem dL_law_912 : decode code 912 = .ok (.iaload, 1) := by decide +kernel
theorem dL_law_913 : decode code 913 = .ok (.aload_n 0, 1) := by decide +kernel
theorem dL_law_914 : decode code 914 = .ok (.iload_n 3, 1) := by decide +kernel
theorem dL_law_915 : decode code 915 = .ok (.iconst 4, 1) := by decide +kernel
theorem dL_law_916 : decode code 916 = .ok (.iadd, 1) := by decide +kernel
theorem dL_law_917 : decode code 917 = .ok (.iaload, 1) := by decide +kernel
theorem dL_law_918 : decode code 918 = .ok (.aload_n 0, 1) := by decide +kernel
theorem dL_law_919 : decode code 919 = .ok (.iload_n 3, 1) := by decide +kernel
theorem dL_law_920 : decode code 920 = .ok (.iconst 5, 1) := by decide +kernel
theorem dL_law_921 : decode code 921 = .ok (.iadd, 1) := by decide +kernel
theorem dL_law_922 : decode code 922 = .ok (.iaload, 1) := by decide +kernel
theorem dL_law_923 : decode code 923 = .ok (.invokevirtual 89, 3) := by decide +kernel
theorem dL_law_926 : decode code 926 = .ok (.lcmp, 1) := by decide +kernel
theorem dL_law_927 : decode code 927 = .ok (.ifCond .eq 577, 3) := by decide +kernel
theorem dL_law_932 : decode code 932 = .ok (.aload_n 1, 1) := by decide +kernel
theorem dL_law_933 : decode code 933 = .ok (.aload_n 0, 1) := by decide +kernel
theorem dL_law_934 : decode code 934 = .ok (.iload_n 3, 1) := by decide +kernel
theorem dL_law_935 : decode code 935 = .ok (.iconst 1, 1) := by decide +kernel
theorem dL_law_936 : decode code 936 = .ok (.iadd, 1) := by decide +kernel
theorem dL_law_937 : decode code 937 = .ok (.iaload, 1) := by decide +kernel
theorem dL_law_938 : decode code 938 = .ok (.aload_n 0, 1) := by decide +kernel
theorem dL_law_939 : decode code 939 = .ok (.iload_n 3, 1) := by decide +kernel
theorem dL_law_940 : decode code 940 = .ok (.iconst 2, 1) := by decide +kernel
theorem dL_law_941 : decode code 941 = .ok (.iadd, 1) := by decide +kernel
theorem dL_law_942 : decode code 942 = .ok (.iaload, 1) := by decide +kernel
theorem dL_law_943 : decode code 943 = .ok (.invokevirtual 90, 3) := by decide +kernel
theorem dL_law_946 : decode code 946 = .ok (.aload_n 2, 1) := by decide +kernel
theorem dL_law_947 : decode code 947 = .ok (.aload_n 0, 1) := by decide +kernel
theorem dL_law_948 : decode code 948 = .ok (.iload_n 3, 1) := by decide +kernel
theorem dL_law_949 : decode code 949 = .ok (.iconst 1, 1) := by decide +kernel
theorem dL_law_950 : decode code 950 = .ok (.iadd, 1) := by decide +kernel
theorem dL_law_951 : decode code 951 = .ok (.iaload, 1) := by decide +kernel
theorem dL_law_952 : decode code 952 = .ok (.aload_n 0, 1) := by decide +kernel
theorem dL_law_953 : decode code 953 = .ok (.iload_n 3, 1) := by decide +kernel
theorem dL_law_954 : decode code 954 = .ok (.iconst 2, 1) := by decide +kernel
theorem dL_law_955 : decode code 955 = .ok (.iadd, 1) := by decide +kernel
theorem dL_law_956 : decode code 956 = .ok (.iaload, 1) := by decide +kernel
theorem dL_law_957 : decode code 957 = .ok (.invokevirtual 93, 3) := by decide +kernel
theorem dL_law_960 : decode code 960 = .ok (.if_icmp .eq 544, 3) := by decide +kernel
theorem dL_law_965 : decode code 965 = .ok (.aload_n 1, 1) := by decide +kernel
theorem dL_law_966 : decode code 966 = .ok (.aload_n 0, 1) := by decide +kernel
theorem dL_law_967 : decode code 967 = .ok (.iload_n 3, 1) := by decide +kernel
theorem dL_law_968 : decode code 968 = .ok (.iconst 1, 1) := by decide +kernel
theorem dL_law_969 : decode code 969 = .ok (.iadd, 1) := by decide +kernel
theorem dL_law_970 : decode code 970 = .ok (.iaload, 1) := by decide +kernel
theorem dL_law_971 : decode code 971 = .ok (.aload_n 0, 1) := by decide +kernel
theorem dL_law_972 : decode code 972 = .ok (.iload_n 3, 1) := by decide +kernel
theorem dL_law_973 : decode code 973 = .ok (.iconst 2, 1) := by decide +kernel
theorem dL_law_974 : decode code 974 = .ok (.iadd, 1) := by decide +kernel
theorem dL_law_975 : decode code 975 = .ok (.iaload, 1) := by decide +kernel
theorem dL_law_976 : decode code 976 = .ok (.invokevirtual 94, 3) := by decide +kernel
theorem dL_law_979 : decode code 979 = .ok (.aload_n 2, 1) := by decide +kernel
theorem dL_law_980 : decode code 980 = .ok (.aload_n 0, 1) := by decide +kernel
theorem dL_law_981 : decode code 981 = .ok (.iload_n 3, 1) := by decide +kernel
theorem dL_law_982 : decode code 982 = .ok (.iconst 1, 1) := by decide +kernel
theorem dL_law_983 : decode code 983 = .ok (.iadd, 1) := by decide +kernel
theorem dL_law_984 : decode code 984 = .ok (.iaload, 1) := by decide +kernel
theorem dL_law_985 : decode code 985 = .ok (.aload_n 0, 1) := by decide +kernel
theorem dL_law_986 : decode code 986 = .ok (.iload_n 3, 1) := by decide +kernel
theorem dL_law_987 : decode code 987 = .ok (.iconst 2, 1) := by decide +kernel
theorem dL_law_988 : decode code 988 = .ok (.iadd, 1) := by decide +kernel
theorem dL_law_989 : decode code 989 = .ok (.iaload, 1) := by decide +kernel
theorem dL_law_990 : decode code 990 = .ok (.invokevirtual 97, 3) := by decide +kernel
theorem dL_law_993 : decode code 993 = .ok (.if_icmp .eq 511, 3) := by decide +kernel
theorem dL_law_998 : decode code 998 = .ok (.aload_n 1, 1) := by decide +kernel
theorem dL_law_999 : decode code 999 = .ok (.aload_n 0, 1) := by decide +kernel
theorem dL_law_1000 : decode code 1000 = .ok (.iload_n 3, 1) := by decide +kernel
theorem dL_law_1001 : decode code 1001 = .ok (.iconst 1, 1) := by decide +kernel
theorem dL_law_1002 : decode code 1002 = .ok (.iadd, 1) := by decide +kernel
theorem dL_law_1003 : decode code 1003 = .ok (.iaload, 1) := by decide +kernel
theorem dL_law_1004 : decode code 1004 = .ok (.aload_n 0, 1) := by decide +kernel
theorem dL_law_1005 : decode code 1005 = .ok (.iload_n 3, 1) := by decide +kernel
theorem dL_law_1006 : decode code 1006 = .ok (.iconst 2, 1) := by decide +kernel
theorem dL_law_1007 : decode code 1007 = .ok (.iadd, 1) := by decide +kernel
theorem dL_law_1008 : decode code 1008 = .ok (.iaload, 1) := by decide +kernel
theorem dL_law_1009 : decode code 1009 = .ok (.aload_n 0, 1) := by decide +kernel
theorem dL_law_1010 : decode code 1010 = .ok (.iload_n 3, 1) := by decide +kernel
theorem dL_law_1011 : decode code 1011 = .ok (.iconst 3, 1) := by decide +kernel
theorem dL_law_1012 : decode code 1012 = .ok (.iadd, 1) := by decide +kernel
theorem dL_law_1013 : decode code 1013 = .ok (.iaload, 1) := by decide +kernel
theorem dL_law_1014 : decode code 1014 = .ok (.invokevirtual 98, 3) := by decide +kernel
theorem dL_law_1017 : decode code 1017 = .ok (.aload_n 2, 1) := by decide +kernel
theorem dL_law_1018 : decode code 1018 = .ok (.aload_n 0, 1) := by decide +kernel
theorem dL_law_1019 : decode code 1019 = .ok (.iload_n 3, 1) := by decide +kernel
theorem dL_law_1020 : decode code 1020 = .ok (.iconst 1, 1) := by decide +kernel
theorem dL_law_1021 : decode code 1021 = .ok (.iadd, 1) := by decide +kernel
theorem dL_law_1022 : decode code 1022 = .ok (.iaload, 1) := by decide +kernel
theorem dL_law_1023 : decode code 1023 = .ok (.aload_n 0, 1) := by decide +kernel
theorem dL_law_1024 : decode code 1024 = .ok (.iload_n 3, 1) := by decide +kernel
theorem dL_law_1025 : decode code 1025 = .ok (.iconst 2, 1) := by decide +kernel
theorem dL_law_1026 : decode code 1026 = .ok (.iadd, 1) := by decide +kernel
theorem dL_law_1027 : decode code 1027 = .ok (.iaload, 1) := by decide +kernel
theorem dL_law_1028 : decode code 1028 = .ok (.aload_n 0, 1) := by decide +kernel
theorem dL_law_1029 : decode code 1029 = .ok (.iload_n 3, 1) := by decide +kernel
theorem dL_law_1030 : decode code 1030 = .ok (.iconst 3, 1) := by decide +kernel
theorem dL_law_1031 : decode code 1031 = .ok (.iadd, 1) := by decide +kernel
theorem dL_law_1032 : decode code 1032 = .ok (.iaload, 1) := by decide +kernel
theorem dL_law_1033 : decode code 1033 = .ok (.invokevirtual 102, 3) := by decide +kernel
theorem dL_law_1036 : decode code 1036 = .ok (.if_icmp .eq 468, 3) := by decide +kernel
theorem dL_law_1041 : decode code 1041 = .ok (.aload_n 1, 1) := by decide +kernel
theorem dL_law_1042 : decode code 1042 = .ok (.aload_n 0, 1) := by decide +kernel
theorem dL_law_1043 : decode code 1043 = .ok (.iload_n 3, 1) := by decide +kernel
theorem dL_law_1044 : decode code 1044 = .ok (.iconst 1, 1) := by decide +kernel
theorem dL_law_1045 : decode code 1045 = .ok (.iadd, 1) := by decide +kernel
theorem dL_law_1046 : decode code 1046 = .ok (.iaload, 1) := by decide +kernel
theorem dL_law_1047 : decode code 1047 = .ok (.aload_n 0, 1) := by decide +kernel
theorem dL_law_1048 : decode code 1048 = .ok (.iload_n 3, 1) := by decide +kernel
theorem dL_law_1049 : decode code 1049 = .ok (.iconst 2, 1) := by decide +kernel
theorem dL_law_1050 : decode code 1050 = .ok (.iadd, 1) := by decide +kernel
theorem dL_law_1051 : decode code 1051 = .ok (.iaload, 1) := by decide +kernel
theorem dL_law_1052 : decode code 1052 = .ok (.aload_n 0, 1) := by decide +kernel
theorem dL_law_1053 : decode code 1053 = .ok (.iload_n 3, 1) := by decide +kernel
theorem dL_law_1054 : decode code 1054 = .ok (.iconst 3, 1) := by decide +kernel
theorem dL_law_1055 : decode code 1055 = .ok (.iadd, 1) := by decide +kernel
theorem dL_law_1056 : decode code 1056 = .ok (.iaload, 1) := by decide +kernel
theorem dL_law_1057 : decode code 1057 = .ok (.aload_n 0, 1) := by decide +kernel
theorem dL_law_1058 : decode code 1058 = .ok (.iload_n 3, 1) := by decide +kernel
theorem dL_law_1059 : decode code 1059 = .ok (.iconst 4, 1) := by decide +kernel
theorem dL_law_1060 : decode code 1060 = .ok (.iadd, 1) := by decide +kernel
theorem dL_law_1061 : decode code 1061 = .ok (.iaload, 1) := by decide +kernel
theorem dL_law_1062 : decode code 1062 = .ok (.invokevirtual 103, 3) := by decide +kernel
theorem dL_law_1065 : decode code 1065 = .ok (.aload_n 2, 1) := by decide +kernel
theorem dL_law_1066 : decode code 1066 = .ok (.aload_n 0, 1) := by decide +kernel
theorem dL_law_1067 : decode code 1067 = .ok (.iload_n 3, 1) := by decide +kernel
theorem dL_law_1068 : decode code 1068 = .ok (.iconst 1, 1) := by decide +kernel
theorem dL_law_1069 : decode code 1069 = .ok (.iadd, 1) := by decide +kernel
theorem dL_law_1070 : decode code 1070 = .ok (.iaload, 1) := by decide +kernel
theorem dL_law_1071 : decode code 1071 = .ok (.aload_n 0, 1) := by decide +kernel
theorem dL_law_1072 : decode code 1072 = .ok (.iload_n 3, 1) := by decide +kernel
theorem dL_law_1073 : decode code 1073 = .ok (.iconst 2, 1) := by decide +kernel
theorem dL_law_1074 : decode code 1074 = .ok (.iadd, 1) := by decide +kernel
theorem dL_law_1075 : decode code 1075 = .ok (.iaload, 1) := by decide +kernel
theorem dL_law_1076 : decode code 1076 = .ok (.aload_n 0, 1) := by decide +kernel
theorem dL_law_1077 : decode code 1077 = .ok (.iload_n 3, 1) := by decide +kernel
theorem dL_law_1078 : decode code 1078 = .ok (.iconst 3, 1) := by decide +kernel
theorem dL_law_1079 : decode code 1079 = .ok (.iadd, 1) := by decide +kernel
theorem dL_law_1080 : decode code 1080 = .ok (.iaload, 1) := by decide +kernel
theorem dL_law_1081 : decode code 1081 = .ok (.aload_n 0, 1) := by decide +kernel
theorem dL_law_1082 : decode code 1082 = .ok (.iload_n 3, 1) := by decide +kernel
theorem dL_law_1083 : decode code 1083 = .ok (.iconst 4, 1) := by decide +kernel
theorem dL_law_1084 : decode code 1084 = .ok (.iadd, 1) := by decide +kernel
theorem dL_law_1085 : decode code 1085 = .ok (.iaload, 1) := by decide +kernel
theorem dL_law_1086 : decode code 1086 = .ok (.invokevirtual 106, 3) := by decide +kernel
theorem dL_law_1089 : decode code 1089 = .ok (.lcmp, 1) := by decide +kernel
theorem dL_law_1090 : decode code 1090 = .ok (.ifCond .eq 414, 3) := by decide +kernel
theorem dL_law_1095 : decode code 1095 = .ok (.aload_n 1, 1) := by decide +kernel
theorem dL_law_1096 : decode code 1096 = .ok (.aload_n 0, 1) := by decide +kernel
theorem dL_law_1097 : decode code 1097 = .ok (.iload_n 3, 1) := by decide +kernel
theorem dL_law_1098 : decode code 1098 = .ok (.iconst 1, 1) := by decide +kernel
theorem dL_law_1099 : decode code 1099 = .ok (.iadd, 1) := by decide +kernel
theorem dL_law_1100 : decode code 1100 = .ok (.iaload, 1) := by decide +kernel
theorem dL_law_1101 : decode code 1101 = .ok (.aload_n 0, 1) := by decide +kernel
theorem dL_law_1102 : decode code 1102 = .ok (.iload_n 3, 1) := by decide +kernel
theorem dL_law_1103 : decode code 1103 = .ok (.iconst 2, 1) := by decide +kernel
theorem dL_law_1104 : decode code 1104 = .ok (.iadd, 1) := by decide +kernel
theorem dL_law_1105 : decode code 1105 = .ok (.iaload, 1) := by decide +kernel
theorem dL_law_1106 : decode code 1106 = .ok (.invokevirtual 107, 3) := by decide +kernel
theorem dL_law_1109 : decode code 1109 = .ok (.aload_n 2, 1) := by decide +kernel
theorem dL_law_1110 : decode code 1110 = .ok (.aload_n 0, 1) := by decide +kernel
theorem dL_law_1111 : decode code 1111 = .ok (.iload_n 3, 1) := by decide +kernel
theorem dL_law_1112 : decode code 1112 = .ok (.iconst 1, 1) := by decide +kernel
theorem dL_law_1113 : decode code 1113 = .ok (.iadd, 1) := by decide +kernel
theorem dL_law_1114 : decode code 1114 = .ok (.iaload, 1) := by decide +kernel
theorem dL_law_1115 : decode code 1115 = .ok (.aload_n 0, 1) := by decide +kernel
theorem dL_law_1116 : decode code 1116 = .ok (.iload_n 3, 1) := by decide +kernel
theorem dL_law_1117 : decode code 1117 = .ok (.iconst 2, 1) := by decide +kernel
theorem dL_law_1118 : decode code 1118 = .ok (.iadd, 1) := by decide +kernel
theorem dL_law_1119 : decode code 1119 = .ok (.iaload, 1) := by decide +kernel
theorem dL_law_1120 : decode code 1120 = .ok (.invokevirtual 110, 3) := by decide +kernel
theorem dL_law_1123 : decode code 1123 = .ok (.if_icmp .eq 381, 3) := by decide +kernel
theorem dL_law_1128 : decode code 1128 = .ok (.aload_n 1, 1) := by decide +kernel
theorem dL_law_1129 : decode code 1129 = .ok (.aload_n 0, 1) := by decide +kernel
theorem dL_law_1130 : decode code 1130 = .ok (.iload_n 3, 1) := by decide +kernel
theorem dL_law_1131 : decode code 1131 = .ok (.iconst 1, 1) := by decide +kernel
theorem dL_law_1132 : decode code 1132 = .ok (.iadd, 1) := by decide +kernel
theorem dL_law_1133 : decode code 1133 = .ok (.iaload, 1) := by decide +kernel
theorem dL_law_1134 : decode code 1134 = .ok (.aload_n 0, 1) := by decide +kernel
theorem dL_law_1135 : decode code 1135 = .ok (.iload_n 3, 1) := by decide +kernel
theorem dL_law_1136 : decode code 1136 = .ok (.iconst 2, 1) := by decide +kernel
theorem dL_law_1137 : decode code 1137 = .ok (.iadd, 1) := by decide +kernel
theorem dL_law_1138 : decode code 1138 = .ok (.iaload, 1) := by decide +kernel
theorem dL_law_1139 : decode code 1139 = .ok (.aload_n 0, 1) := by decide +kernel
theorem dL_law_1140 : decode code 1140 = .ok (.iload_n 3, 1) := by decide +kernel
theorem dL_law_1141 : decode code 1141 = .ok (.iconst 3, 1) := by decide +kernel
theorem dL_law_1142 : decode code 1142 = .ok (.iadd, 1) := by decide +kernel
theorem dL_law_1143 : decode code 1143 = .ok (.iaload, 1) := by decide +kernel
theorem dL_law_1144 : decode code 1144 = .ok (.invokevirtual 111, 3) := by decide +kernel
theorem dL_law_1147 : decode code 1147 = .ok (.aload_n 2, 1) := by decide +kernel
theorem dL_law_1148 : decode code 1148 = .ok (.aload_n 0, 1) := by decide +kernel
theorem dL_law_1149 : decode code 1149 = .ok (.iload_n 3, 1) := by decide +kernel
theorem dL_law_1150 : decode code 1150 = .ok (.iconst 1, 1) := by decide +kernel
theorem dL_law_1151 : decode code 1151 = .ok (.iadd, 1) := by decide +kernel
theorem dL_law_1152 : decode code 1152 = .ok (.iaload, 1) := by decide +kernel
theorem dL_law_1153 : decode code 1153 = .ok (.aload_n 0, 1) := by decide +kernel
theorem dL_law_1154 : decode code 1154 = .ok (.iload_n 3, 1) := by decide +kernel
theorem dL_law_1155 : decode code 1155 = .ok (.iconst 2, 1) := by decide +kernel
theorem dL_law_1156 : decode code 1156 = .ok (.iadd, 1) := by decide +kernel
theorem dL_law_1157 : decode code 1157 = .ok (.iaload, 1) := by decide +kernel
theorem dL_law_1158 : decode code 1158 = .ok (.aload_n 0, 1) := by decide +kernel
theorem dL_law_1159 : decode code 1159 = .ok (.iload_n 3, 1) := by decide +kernel
theorem dL_law_1160 : decode code 1160 = .ok (.iconst 3, 1) := by decide +kernel
theorem dL_law_1161 : decode code 1161 = .ok (.iadd, 1) := by decide +kernel
theorem dL_law_1162 : decode code 1162 = .ok (.iaload, 1) := by decide +kernel
theorem dL_law_1163 : decode code 1163 = .ok (.invokevirtual 115, 3) := by decide +kernel
theorem dL_law_1166 : decode code 1166 = .ok (.lcmp, 1) := by decide +kernel
theorem dL_law_1167 : decode code 1167 = .ok (.ifCond .eq 337, 3) := by decide +kernel
theorem dL_law_1172 : decode code 1172 = .ok (.aload_n 1, 1) := by decide +kernel
theorem dL_law_1173 : decode code 1173 = .ok (.aload_n 0, 1) := by decide +kernel
theorem dL_law_1174 : decode code 1174 = .ok (.iload_n 3, 1) := by decide +kernel
theorem dL_law_1175 : decode code 1175 = .ok (.iconst 1, 1) := by decide +kernel
theorem dL_law_1176 : decode code 1176 = .ok (.iadd, 1) := by decide +kernel
theorem dL_law_1177 : decode code 1177 = .ok (.iaload, 1) := by decide +kernel
theorem dL_law_1178 : decode code 1178 = .ok (.aload_n 0, 1) := by decide +kernel
theorem dL_law_1179 : decode code 1179 = .ok (.iload_n 3, 1) := by decide +kernel
theorem dL_law_1180 : decode code 1180 = .ok (.iconst 2, 1) := by decide +kernel
theorem dL_law_1181 : decode code 1181 = .ok (.iadd, 1) := by decide +kernel
theorem dL_law_1182 : decode code 1182 = .ok (.iaload, 1) := by decide +kernel
theorem dL_law_1183 : decode code 1183 = .ok (.invokevirtual 116, 3) := by decide +kernel
theorem dL_law_1186 : decode code 1186 = .ok (.aload_n 2, 1) := by decide +kernel
theorem dL_law_1187 : decode code 1187 = .ok (.aload_n 0, 1) := by decide +kernel
theorem dL_law_1188 : decode code 1188 = .ok (.iload_n 3, 1) := by decide +kernel
theorem dL_law_1189 : decode code 1189 = .ok (.iconst 1, 1) := by decide +kernel
theorem dL_law_1190 : decode code 1190 = .ok (.iadd, 1) := by decide +kernel
theorem dL_law_1191 : decode code 1191 = .ok (.iaload, 1) := by decide +kernel
theorem dL_law_1192 : decode code 1192 = .ok (.aload_n 0, 1) := by decide +kernel
theorem dL_law_1193 : decode code 1193 = .ok (.iload_n 3, 1) := by decide +kernel
theorem dL_law_1194 : decode code 1194 = .ok (.iconst 2, 1) := by decide +kernel
theorem dL_law_1195 : decode code 1195 = .ok (.iadd, 1) := by decide +kernel
theorem dL_law_1196 : decode code 1196 = .ok (.iaload, 1) := by decide +kernel
theorem dL_law_1197 : decode code 1197 = .ok (.invokevirtual 119, 3) := by decide +kernel
theorem dL_law_1200 : decode code 1200 = .ok (.if_icmp .eq 304, 3) := by decide +kernel
theorem dL_law_1205 : decode code 1205 = .ok (.aload_n 1, 1) := by decide +kernel
theorem dL_law_1206 : decode code 1206 = .ok (.aload_n 0, 1) := by decide +kernel
theorem dL_law_1207 : decode code 1207 = .ok (.iload_n 3, 1) := by decide +kernel
theorem dL_law_1208 : decode code 1208 = .ok (.iconst 1, 1) := by decide +kernel
theorem dL_law_1209 : decode code 1209 = .ok (.iadd, 1) := by decide +kernel
theorem dL_law_1210 : decode code 1210 = .ok (.iaload, 1) := by decide +kernel
theorem dL_law_1211 : decode code 1211 = .ok (.aload_n 0, 1) := by decide +kernel
theorem dL_law_1212 : decode code 1212 = .ok (.iload_n 3, 1) := by decide +kernel
theorem dL_law_1213 : decode code 1213 = .ok (.iconst 2, 1) := by decide +kernel
theorem dL_law_1214 : decode code 1214 = .ok (.iadd, 1) := by decide +kernel
theorem dL_law_1215 : decode code 1215 = .ok (.iaload, 1) := by decide +kernel
theorem dL_law_1216 : decode code 1216 = .ok (.aload_n 0, 1) := by decide +kernel
theorem dL_law_1217 : decode code 1217 = .ok (.iload_n 3, 1) := by decide +kernel
theorem dL_law_1218 : decode code 1218 = .ok (.iconst 3, 1) := by decide +kernel
theorem dL_law_1219 : decode code 1219 = .ok (.iadd, 1) := by decide +kernel
theorem dL_law_1220 : decode code 1220 = .ok (.iaload, 1) := by decide +kernel
theorem dL_law_1221 : decode code 1221 = .ok (.invokevirtual 120, 3) := by decide +kernel
theorem dL_law_1224 : decode code 1224 = .ok (.aload_n 2, 1) := by decide +kernel
theorem dL_law_1225 : decode code 1225 = .ok (.aload_n 0, 1) := by decide +kernel
theorem dL_law_1226 : decode code 1226 = .ok (.iload_n 3, 1) := by decide +kernel
theorem dL_law_1227 : decode code 1227 = .ok (.iconst 1, 1) := by decide +kernel
theorem dL_law_1228 : decode code 1228 = .ok (.iadd, 1) := by decide +kernel
theorem dL_law_1229 : decode code 1229 = .ok (.iaload, 1) := by decide +kernel
theorem dL_law_1230 : decode code 1230 = .ok (.aload_n 0, 1) := by decide +kernel
theorem dL_law_1231 : decode code 1231 = .ok (.iload_n 3, 1) := by decide +kernel
theorem dL_law_1232 : decode code 1232 = .ok (.iconst 2, 1) := by decide +kernel
theorem dL_law_1233 : decode code 1233 = .ok (.iadd, 1) := by decide +kernel
theorem dL_law_1234 : decode code 1234 = .ok (.iaload, 1) := by decide +kernel
theorem dL_law_1235 : decode code 1235 = .ok (.aload_n 0, 1) := by decide +kernel
theorem dL_law_1236 : decode code 1236 = .ok (.iload_n 3, 1) := by decide +kernel
theorem dL_law_1237 : decode code 1237 = .ok (.iconst 3, 1) := by decide +kernel
theorem dL_law_1238 : decode code 1238 = .ok (.iadd, 1) := by decide +kernel
theorem dL_law_1239 : decode code 1239 = .ok (.iaload, 1) := by decide +kernel
theorem dL_law_1240 : decode code 1240 = .ok (.invokevirtual 123, 3) := by decide +kernel
theorem dL_law_1243 : decode code 1243 = .ok (.if_icmp .eq 261, 3) := by decide +kernel
theorem dL_law_1248 : decode code 1248 = .ok (.aload_n 1, 1) := by decide +kernel
theorem dL_law_1249 : decode code 1249 = .ok (.aload_n 0, 1) := by decide +kernel
theorem dL_law_1250 : decode code 1250 = .ok (.iload_n 3, 1) := by decide +kernel
theorem dL_law_1251 : decode code 1251 = .ok (.iconst 1, 1) := by decide +kernel
theorem dL_law_1252 : decode code 1252 = .ok (.iadd, 1) := by decide +kernel
theorem dL_law_1253 : decode code 1253 = .ok (.iaload, 1) := by decide +kernel
theorem dL_law_1254 : decode code 1254 = .ok (.aload_n 0, 1) := by decide +kernel
theorem dL_law_1255 : decode code 1255 = .ok (.iload_n 3, 1) := by decide +kernel
theorem dL_law_1256 : decode code 1256 = .ok (.iconst 2, 1) := by decide +kernel
theorem dL_law_1257 : decode code 1257 = .ok (.iadd, 1) := by decide +kernel
theorem dL_law_1258 : decode code 1258 = .ok (.iaload, 1) := by decide +kernel
theorem dL_law_1259 : decode code 1259 = .ok (.invokevirtual 124, 3) := by decide +kernel
theorem dL_law_1262 : decode code 1262 = .ok (.aload_n 2, 1) := by decide +kernel
theorem dL_law_1263 : decode code 1263 = .ok (.aload_n 0, 1) := by decide +kernel
theorem dL_law_1264 : decode code 1264 = .ok (.iload_n 3, 1) := by decide +kernel
theorem dL_law_1265 : decode code 1265 = .ok (.iconst 1, 1) := by decide +kernel
theorem dL_law_1266 : decode code 1266 = .ok (.iadd, 1) := by decide +kernel
theorem dL_law_1267 : decode code 1267 = .ok (.iaload, 1) := by decide +kernel
theorem dL_law_1268 : decode code 1268 = .ok (.aload_n 0, 1) := by decide +kernel
theorem dL_law_1269 : decode code 1269 = .ok (.iload_n 3, 1) := by decide +kernel
theorem dL_law_1270 : decode code 1270 = .ok (.iconst 2, 1) := by decide +kernel
theorem dL_law_1271 : decode code 1271 = .ok (.iadd, 1) := by decide +kernel
theorem dL_law_1272 : decode code 1272 = .ok (.iaload, 1) := by decide +kernel
theorem dL_law_1273 : decode code 1273 = .ok (.invokevirtual 127, 3) := by decide +kernel
theorem dL_law_1276 : decode code 1276 = .ok (.if_icmp .eq 228, 3) := by decide +kernel
theorem dL_law_1281 : decode code 1281 = .ok (.aload_n 1, 1) := by decide +kernel
theorem dL_law_1282 : decode code 1282 = .ok (.aload_n 0, 1) := by decide +kernel
theorem dL_law_1283 : decode code 1283 = .ok (.iload_n 3, 1) := by decide +kernel
theorem dL_law_1284 : decode code 1284 = .ok (.iconst 1, 1) := by decide +kernel
theorem dL_law_1285 : decode code 1285 = .ok (.iadd, 1) := by decide +kernel
theorem dL_law_1286 : decode code 1286 = .ok (.iaload, 1) := by decide +kernel
theorem dL_law_1287 : decode code 1287 = .ok (.aload_n 0, 1) := by decide +kernel
theorem dL_law_1288 : decode code 1288 = .ok (.iload_n 3, 1) := by decide +kernel
theorem dL_law_1289 : decode code 1289 = .ok (.iconst 2, 1) := by decide +kernel
theorem dL_law_1290 : decode code 1290 = .ok (.iadd, 1) := by decide +kernel
theorem dL_law_1291 : decode code 1291 = .ok (.iaload, 1) := by decide +kernel
theorem dL_law_1292 : decode code 1292 = .ok (.aload_n 0, 1) := by decide +kernel
theorem dL_law_1293 : decode code 1293 = .ok (.iload_n 3, 1) := by decide +kernel
theorem dL_law_1294 : decode code 1294 = .ok (.iconst 3, 1) := by decide +kernel
theorem dL_law_1295 : decode code 1295 = .ok (.iadd, 1) := by decide +kernel
theorem dL_law_1296 : decode code 1296 = .ok (.iaload, 1) := by decide +kernel
theorem dL_law_1297 : decode code 1297 = .ok (.aload_n 0, 1) := by decide +kernel
theorem dL_law_1298 : decode code 1298 = .ok (.iload_n 3, 1) := by decide +kernel
theorem dL_law_1299 : decode code 1299 = .ok (.iconst 4, 1) := by decide +kernel
theorem dL_law_1300 : decode code 1300 = .ok (.iadd, 1) := by decide +kernel
theorem dL_law_1301 : decode code 1301 = .ok (.iaload, 1) := by decide +kernel
theorem dL_law_1302 : decode code 1302 = .ok (.aload_n 0, 1) := by decide +kernel
theorem dL_law_1303 : decode code 1303 = .ok (.iload_n 3, 1) := by decide +kernel
theorem dL_law_1304 : decode code 1304 = .ok (.iconst 5, 1) := by decide +kernel
theorem dL_law_1305 : decode code 1305 = .ok (.iadd, 1) := by decide +kernel
theorem dL_law_1306 : decode code 1306 = .ok (.iaload, 1) := by decide +kernel
theorem dL_law_1307 : decode code 1307 = .ok (.invokevirtual 128, 3) := by decide +kernel
theorem dL_law_1310 : decode code 1310 = .ok (.aload_n 2, 1) := by decide +kernel
theorem dL_law_1311 : decode code 1311 = .ok (.aload_n 0, 1) := by decide +kernel
theorem dL_law_1312 : decode code 1312 = .ok (.iload_n 3, 1) := by decide +kernel
theorem dL_law_1313 : decode code 1313 = .ok (.iconst 1, 1) := by decide +kernel
theorem dL_law_1314 : decode code 1314 = .ok (.iadd, 1) := by decide +kernel
theorem dL_law_1315 : decode code 1315 = .ok (.iaload, 1) := by decide +kernel
theorem dL_law_1316 : decode code 1316 = .ok (.aload_n 0, 1) := by decide +kernel
theorem dL_law_1317 : decode code 1317 = .ok (.iload_n 3, 1) := by decide +kernel
theorem dL_law_1318 : decode code 1318 = .ok (.iconst 2, 1) := by decide +kernel
theorem dL_law_1319 : decode code 1319 = .ok (.iadd, 1) := by decide +kernel
theorem dL_law_1320 : decode code 1320 = .ok (.iaload, 1) := by decide +kernel
theorem dL_law_1321 : decode code 1321 = .ok (.aload_n 0, 1) := by decide +kernel
theorem dL_law_1322 : decode code 1322 = .ok (.iload_n 3, 1) := by decide +kernel
theorem dL_law_1323 : decode code 1323 = .ok (.iconst 3, 1) := by decide +kernel
theorem dL_law_1324 : decode code 1324 = .ok (.iadd, 1) := by decide +kernel
theorem dL_law_1325 : decode code 1325 = .ok (.iaload, 1) := by decide +kernel
theorem dL_law_1326 : decode code 1326 = .ok (.aload_n 0, 1) := by decide +kernel
theorem dL_law_1327 : decode code 1327 = .ok (.iload_n 3, 1) := by decide +kernel
theorem dL_law_1328 : decode code 1328 = .ok (.iconst 4, 1) := by decide +kernel
theorem dL_law_1329 : decode code 1329 = .ok (.iadd, 1) := by decide +kernel
theorem dL_law_1330 : decode code 1330 = .ok (.iaload, 1) := by decide +kernel
theorem dL_law_1331 : decode code 1331 = .ok (.aload_n 0, 1) := by decide +kernel
theorem dL_law_1332 : decode code 1332 = .ok (.iload_n 3, 1) := by decide +kernel
theorem dL_law_1333 : decode code 1333 = .ok (.iconst 5, 1) := by decide +kernel
theorem dL_law_1334 : decode code 1334 = .ok (.iadd, 1) := by decide +kernel
theorem dL_law_1335 : decode code 1335 = .ok (.iaload, 1) := by decide +kernel
theorem dL_law_1336 : decode code 1336 = .ok (.invokevirtual 131, 3) := by decide +kernel
theorem dL_law_1339 : decode code 1339 = .ok (.lcmp, 1) := by decide +kernel
theorem dL_law_1340 : decode code 1340 = .ok (.ifCond .eq 164, 3) := by decide +kernel
theorem dL_law_1345 : decode code 1345 = .ok (.aload_n 1, 1) := by decide +kernel
theorem dL_law_1346 : decode code 1346 = .ok (.aload_n 0, 1) := by decide +kernel
theorem dL_law_1347 : decode code 1347 = .ok (.iload_n 3, 1) := by decide +kernel
theorem dL_law_1348 : decode code 1348 = .ok (.iconst 1, 1) := by decide +kernel
theorem dL_law_1349 : decode code 1349 = .ok (.iadd, 1) := by decide +kernel
theorem dL_law_1350 : decode code 1350 = .ok (.iaload, 1) := by decide +kernel
theorem dL_law_1351 : decode code 1351 = .ok (.aload_n 0, 1) := by decide +kernel
theorem dL_law_1352 : decode code 1352 = .ok (.iload_n 3, 1) := by decide +kernel
theorem dL_law_1353 : decode code 1353 = .ok (.iconst 2, 1) := by decide +kernel
theorem dL_law_1354 : decode code 1354 = .ok (.iadd, 1) := by decide +kernel
theorem dL_law_1355 : decode code 1355 = .ok (.iaload, 1) := by decide +kernel
theorem dL_law_1356 : decode code 1356 = .ok (.aload_n 0, 1) := by decide +kernel
theorem dL_law_1357 : decode code 1357 = .ok (.iload_n 3, 1) := by decide +kernel
theorem dL_law_1358 : decode code 1358 = .ok (.iconst 3, 1) := by decide +kernel
theorem dL_law_1359 : decode code 1359 = .ok (.iadd, 1) := by decide +kernel
theorem dL_law_1360 : decode code 1360 = .ok (.iaload, 1) := by decide +kernel
theorem dL_law_1361 : decode code 1361 = .ok (.aload_n 0, 1) := by decide +kernel
theorem dL_law_1362 : decode code 1362 = .ok (.iload_n 3, 1) := by decide +kernel
theorem dL_law_1363 : decode code 1363 = .ok (.iconst 4, 1) := by decide +kernel
theorem dL_law_1364 : decode code 1364 = .ok (.iadd, 1) := by decide +kernel
theorem dL_law_1365 : decode code 1365 = .ok (.iaload, 1) := by decide +kernel
theorem dL_law_1366 : decode code 1366 = .ok (.invokevirtual 132, 3) := by decide +kernel
theorem dL_law_1369 : decode code 1369 = .ok (.aload_n 2, 1) := by decide +kernel
theorem dL_law_1370 : decode code 1370 = .ok (.aload_n 0, 1) := by decide +kernel
theorem dL_law_1371 : decode code 1371 = .ok (.iload_n 3, 1) := by decide +kernel
theorem dL_law_1372 : decode code 1372 = .ok (.iconst 1, 1) := by decide +kernel
theorem dL_law_1373 : decode code 1373 = .ok (.iadd, 1) := by decide +kernel
theorem dL_law_1374 : decode code 1374 = .ok (.iaload, 1) := by decide +kernel
theorem dL_law_1375 : decode code 1375 = .ok (.aload_n 0, 1) := by decide +kernel
theorem dL_law_1376 : decode code 1376 = .ok (.iload_n 3, 1) := by decide +kernel
theorem dL_law_1377 : decode code 1377 = .ok (.iconst 2, 1) := by decide +kernel
theorem dL_law_1378 : decode code 1378 = .ok (.iadd, 1) := by decide +kernel
theorem dL_law_1379 : decode code 1379 = .ok (.iaload, 1) := by decide +kernel
theorem dL_law_1380 : decode code 1380 = .ok (.aload_n 0, 1) := by decide +kernel
theorem dL_law_1381 : decode code 1381 = .ok (.iload_n 3, 1) := by decide +kernel
theorem dL_law_1382 : decode code 1382 = .ok (.iconst 3, 1) := by decide +kernel
theorem dL_law_1383 : decode code 1383 = .ok (.iadd, 1) := by decide +kernel
theorem dL_law_1384 : decode code 1384 = .ok (.iaload, 1) := by decide +kernel
theorem dL_law_1385 : decode code 1385 = .ok (.aload_n 0, 1) := by decide +kernel
theorem dL_law_1386 : decode code 1386 = .ok (.iload_n 3, 1) := by decide +kernel
theorem dL_law_1387 : decode code 1387 = .ok (.iconst 4, 1) := by decide +kernel
theorem dL_law_1388 : decode code 1388 = .ok (.iadd, 1) := by decide +kernel
theorem dL_law_1389 : decode code 1389 = .ok (.iaload, 1) := by decide +kernel
theorem dL_law_1390 : decode code 1390 = .ok (.invokevirtual 135, 3) := by decide +kernel
theorem dL_law_1393 : decode code 1393 = .ok (.lcmp, 1) := by decide +kernel
theorem dL_law_1394 : decode code 1394 = .ok (.ifCond .eq 110, 3) := by decide +kernel
theorem dL_law_1399 : decode code 1399 = .ok (.aload_n 1, 1) := by decide +kernel
theorem dL_law_1400 : decode code 1400 = .ok (.aload_n 0, 1) := by decide +kernel
theorem dL_law_1401 : decode code 1401 = .ok (.iload_n 3, 1) := by decide +kernel
theorem dL_law_1402 : decode code 1402 = .ok (.iconst 1, 1) := by decide +kernel
theorem dL_law_1403 : decode code 1403 = .ok (.iadd, 1) := by decide +kernel
theorem dL_law_1404 : decode code 1404 = .ok (.iaload, 1) := by decide +kernel
theorem dL_law_1405 : decode code 1405 = .ok (.invokevirtual 136, 3) := by decide +kernel
theorem dL_law_1408 : decode code 1408 = .ok (.aload_n 2, 1) := by decide +kernel
theorem dL_law_1409 : decode code 1409 = .ok (.aload_n 0, 1) := by decide +kernel
theorem dL_law_1410 : decode code 1410 = .ok (.iload_n 3, 1) := by decide +kernel
theorem dL_law_1411 : decode code 1411 = .ok (.iconst 1, 1) := by decide +kernel
theorem dL_law_1412 : decode code 1412 = .ok (.iadd, 1) := by decide +kernel
theorem dL_law_1413 : decode code 1413 = .ok (.iaload, 1) := by decide +kernel
theorem dL_law_1414 : decode code 1414 = .ok (.invokevirtual 140, 3) := by decide +kernel
theorem dL_law_1417 : decode code 1417 = .ok (.if_icmp .eq 87, 3) := by decide +kernel
theorem dL_law_1422 : decode code 1422 = .ok (.aload_n 1, 1) := by decide +kernel
theorem dL_law_1423 : decode code 1423 = .ok (.invokevirtual 141, 3) := by decide +kernel
theorem dL_law_1426 : decode code 1426 = .ok (.aload_n 2, 1) := by decide +kernel
theorem dL_law_1427 : decode code 1427 = .ok (.invokevirtual 145, 3) := by decide +kernel
theorem dL_law_1430 : decode code 1430 = .ok (.if_icmp .eq 74, 3) := by decide +kernel
theorem dL_law_1435 : decode code 1435 = .ok (.aload_n 1, 1) := by decide +kernel
theorem dL_law_1436 : decode code 1436 = .ok (.invokevirtual 146, 3) := by decide +kernel
theorem dL_law_1439 : decode code 1439 = .ok (.aload_n 2, 1) := by decide +kernel
theorem dL_law_1440 : decode code 1440 = .ok (.invokevirtual 150, 3) := by decide +kernel
theorem dL_law_1443 : decode code 1443 = .ok (.if_icmp .eq 61, 3) := by decide +kernel
theorem dL_law_1448 : decode code 1448 = .ok (.aload_n 1, 1) := by decide +kernel
theorem dL_law_1449 : decode code 1449 = .ok (.aload_n 0, 1) := by decide +kernel
theorem dL_law_1450 : decode code 1450 = .ok (.iload_n 3, 1) := by decide +kernel
theorem dL_law_1451 : decode code 1451 = .ok (.iconst 1, 1) := by decide +kernel
theorem dL_law_1452 : decode code 1452 = .ok (.iadd, 1) := by decide +kernel
theorem dL_law_1453 : decode code 1453 = .ok (.iaload, 1) := by decide +kernel
theorem dL_law_1454 : decode code 1454 = .ok (.aload_n 0, 1) := by decide +kernel
theorem dL_law_1455 : decode code 1455 = .ok (.iload_n 3, 1) := by decide +kernel
theorem dL_law_1456 : decode code 1456 = .ok (.iconst 2, 1) := by decide +kernel
theorem dL_law_1457 : decode code 1457 = .ok (.iadd, 1) := by decide +kernel
theorem dL_law_1458 : decode code 1458 = .ok (.iaload, 1) := by decide +kernel
theorem dL_law_1459 : decode code 1459 = .ok (.invokevirtual 151, 3) := by decide +kernel
theorem dL_law_1462 : decode code 1462 = .ok (.aload_n 2, 1) := by decide +kernel
theorem dL_law_1463 : decode code 1463 = .ok (.aload_n 0, 1) := by decide +kernel
theorem dL_law_1464 : decode code 1464 = .ok (.iload_n 3, 1) := by decide +kernel
theorem dL_law_1465 : decode code 1465 = .ok (.iconst 1, 1) := by decide +kernel
theorem dL_law_1466 : decode code 1466 = .ok (.iadd, 1) := by decide +kernel
theorem dL_law_1467 : decode code 1467 = .ok (.iaload, 1) := by decide +kernel
theorem dL_law_1468 : decode code 1468 = .ok (.aload_n 0, 1) := by decide +kernel
theorem dL_law_1469 : decode code 1469 = .ok (.iload_n 3, 1) := by decide +kernel
theorem dL_law_1470 : decode code 1470 = .ok (.iconst 2, 1) := by decide +kernel
theorem dL_law_1471 : decode code 1471 = .ok (.iadd, 1) := by decide +kernel
theorem dL_law_1472 : decode code 1472 = .ok (.iaload, 1) := by decide +kernel
theorem dL_law_1473 : decode code 1473 = .ok (.invokevirtual 154, 3) := by decide +kernel
theorem dL_law_1476 : decode code 1476 = .ok (.if_icmp .eq 28, 3) := by decide +kernel
theorem dL_law_1481 : decode code 1481 = .ok (.aload_n 1, 1) := by decide +kernel
theorem dL_law_1482 : decode code 1482 = .ok (.aload_n 0, 1) := by decide +kernel
theorem dL_law_1483 : decode code 1483 = .ok (.iload_n 3, 1) := by decide +kernel
theorem dL_law_1484 : decode code 1484 = .ok (.iconst 1, 1) := by decide +kernel
theorem dL_law_1485 : decode code 1485 = .ok (.iadd, 1) := by decide +kernel
theorem dL_law_1486 : decode code 1486 = .ok (.iaload, 1) := by decide +kernel
theorem dL_law_1487 : decode code 1487 = .ok (.invokevirtual 155, 3) := by decide +kernel
theorem dL_law_1490 : decode code 1490 = .ok (.aload_n 2, 1) := by decide +kernel
theorem dL_law_1491 : decode code 1491 = .ok (.aload_n 0, 1) := by decide +kernel
theorem dL_law_1492 : decode code 1492 = .ok (.iload_n 3, 1) := by decide +kernel
theorem dL_law_1493 : decode code 1493 = .ok (.iconst 1, 1) := by decide +kernel
theorem dL_law_1494 : decode code 1494 = .ok (.iadd, 1) := by decide +kernel
theorem dL_law_1495 : decode code 1495 = .ok (.iaload, 1) := by decide +kernel
theorem dL_law_1496 : decode code 1496 = .ok (.invokevirtual 158, 3) := by decide +kernel
theorem dL_law_1499 : decode code 1499 = .ok (.if_icmp .eq 5, 3) := by decide +kernel
theorem dL_law_1504 : decode code 1504 = .ok (.iinc 3 6, 3) := by decide +kernel
theorem dL_law_1507 : decode code 1507 = .ok (.goto (-1489), 3) := by decide +kernel
theorem dL_law_1510 : decode code 1510 = .ok (.iconst 1, 1) := by decide +kernel
theorem dL_law_1511 : decode code 1511 = .ok (.ireturn, 1) := by decide +kernel
set_option maxHeartbeats 4000000 in
set_option maxRecDepth 100000 in
theorem law_case_0 {p : Program} {e : Env} {s : State} {m : MethodId} {below : List Frame} {meth : Method} {c : Code} (l : Launch) (D : va_G) (cy : Nat → ClassId) {b L : Nat} {xs : Nat → Int32} (C : xC2 p s m #[Value.ref b] meth c D (fun q => s.heap.size ≤ q) s.heap 4 code RL (xTY cy)) (hr : meth.sig.returnType = ret) (hX : va_X b L xs s s.heap) (hbl : b < s.heap.size) (hbA : ¬ (fun q : Nat => s.heap.size ≤ q) b) (hL6 : L = 6) (ux um : Nat → Nat) (cs : Nat × Nat) (hcs : cs = (162, 8366)) : xW p l e room_1 s m #[Value.ref b] below meth c D (fun q => s.heap.size ≤ q) s.heap 4 cs.1 cs.2 (lw_Z below #[Value.ref b] s) (XW cy ux V0x J0 R0x ++ MW cy um V0m J0 R0m) 180 [(3, vI 0), (2, .ref (um 0)), (1, .ref (ux 0)), (0, .ref b)] [] := by
  subst hcs
  refine x_aload_n C.1 dL_law_180 2 rfl ?_
  refine x_aload_n C.1 dL_law_181 3 rfl ?_
  refine x_iload_n C.1 dL_law_182 0 rfl ?_
  refine x_iconst C.1 (n := 1) dL_law_183 ?_
  refine x_iadd C.1 (v := 1) (by decide) dL_law_184 ?_
  refine x_sld C (b := b) (i := 1) hX hbl hbA (by omega) (by omega) dL_law_185 ?_
  rw [show (1 : Int).toNat = 1 from rfl]
  refine x_aload_n C.1 dL_law_186 3 rfl ?_
  refine x_iload_n C.1 dL_law_187 0 rfl ?_
  refine x_iconst C.1 (n := 2) dL_law_188 ?_
  refine x_iadd C.1 (v := 2) (by decide) dL_law_189 ?_
  refine x_sld C (b := b) (i := 2) hX hbl hbA (by omega) (by omega) dL_law_190 ?_
  rw [show (2 : Int).toNat = 2 from rfl]
  refine x_aload_n C.1 dL_law_191 3 rfl ?_
  refine x_iload_n C.1 dL_law_192 0 rfl ?_
  refine x_iconst C.1 (n := 3) dL_law_193 ?_
  refine x_iadd C.1 (v := 3) (by decide) dL_law_194 ?_
  refine x_sld C (b := b) (i := 3) hX hbl hbA (by omega) (by omega) dL_law_195 ?_
  rw [show (3 : Int).toNat = 3 from rfl]
  refine x_aload_n C.1 dL_law_196 3 rfl ?_
  refine x_iload_n C.1 dL_law_197 0 rfl ?_
  refine x_iconst C.1 (n := 4) dL_law_198 ?_
  refine x_iadd C.1 (v := 4) (by decide) dL_law_199 ?_
  refine x_sld C (b := b) (i := 4) hX hbl hbA (by omega) (by omega) dL_law_200 ?_
  rw [show (4 : Int).toNat = 4 from rfl]
  refine x_callVi C (As := [vI ((xs 1).toInt), vI ((xs 2).toInt), vI ((xs 3).toInt), vI ((xs 4).toInt)]) (rest := []) 0 law_x vc_X11 (f_plant l D cy ux V0x J0 R0x X_VR X_VJ ((xs 1).toInt) ((xs 2).toInt) ((xs 3).toInt) ((xs 4).toInt) (xi_r _) (xi_r _) (xi_r _) (xi_r _) X_np X_ne X_tl) (l1 := []) (l2 := MW cy um V0m J0 R0m) rfl (w2 := fun u1 => XW cy ux u1.1 u1.2.1 u1.2.2 ++ MW cy um V0m J0 R0m) (fun _ => rfl) rfl wm_yX11_plant wn_X11 wl_L_13 wi_yX11_plant we_yX11_plant hd_yX11_plant rfl ⟨Nat.le_of_ble_eq_true rfl, Nat.le_of_ble_eq_true rfl⟩ (Nat.le_of_ble_eq_true rfl) ⟨Nat.le_of_ble_eq_true rfl, Nat.le_of_ble_eq_true rfl⟩ dL_law_201 (fun r1 u1 hr1 h1 => ?_)
  refine x_aload_n C.1 dL_law_204 1 rfl ?_
  refine x_aload_n C.1 dL_law_205 3 rfl ?_
  refine x_iload_n C.1 dL_law_206 0 rfl ?_
  refine x_iconst C.1 (n := 1) dL_law_207 ?_
  refine x_iadd C.1 (v := 1) (by decide) dL_law_208 ?_
  refine x_sld C (b := b) (i := 1) hX hbl hbA (by omega) (by omega) dL_law_209 ?_
  rw [show (1 : Int).toNat = 1 from rfl]
  refine x_aload_n C.1 dL_law_210 3 rfl ?_
  refine x_iload_n C.1 dL_law_211 0 rfl ?_
  refine x_iconst C.1 (n := 2) dL_law_212 ?_
  refine x_iadd C.1 (v := 2) (by decide) dL_law_213 ?_
  refine x_sld C (b := b) (i := 2) hX hbl hbA (by omega) (by omega) dL_law_214 ?_
  rw [show (2 : Int).toNat = 2 from rfl]
  refine x_aload_n C.1 dL_law_215 3 rfl ?_
  refine x_iload_n C.1 dL_law_216 0 rfl ?_
  refine x_iconst C.1 (n := 3) dL_law_217 ?_
  refine x_iadd C.1 (v := 3) (by decide) dL_law_218 ?_
  refine x_sld C (b := b) (i := 3) hX hbl hbA (by omega) (by omega) dL_law_219 ?_
  rw [show (3 : Int).toNat = 3 from rfl]
  refine x_aload_n C.1 dL_law_220 3 rfl ?_
  refine x_iload_n C.1 dL_law_221 0 rfl ?_
  refine x_iconst C.1 (n := 4) dL_law_222 ?_
  refine x_iadd C.1 (v := 4) (by decide) dL_law_223 ?_
  refine x_sld C (b := b) (i := 4) hX hbl hbA (by omega) (by omega) dL_law_224 ?_
  rw [show (4 : Int).toNat = 4 from rfl]
  refine x_callVi C (As := [vI ((xs 1).toInt), vI ((xs 2).toInt), vI ((xs 3).toInt), vI ((xs 4).toInt)]) (rest := [vI r1]) 129 law_m vc_X12 (g_plant l D cy um V0m J0 R0m M_VR X_VJ ((xs 1).toInt) ((xs 2).toInt) ((xs 3).toInt) ((xs 4).toInt) (xi_r _) (xi_r _) (xi_r _) (xi_r _) M_76 M_78 M_tp) (l1 := XW cy ux u1.1 u1.2.1 u1.2.2) (l2 := []) (List.append_nil _).symm (w2 := fun u2 : xS => XW cy ux u1.1 u1.2.1 u1.2.2 ++ MW cy um u2.1 u2.2.1 u2.2.2) (fun _ => List.append_nil _) rfl wm_yX12_plant wn_X12 wl_L_17 wi_yX12_plant we_yX12_plant hd_yX12_plant rfl ⟨Nat.le_of_ble_eq_true rfl, Nat.le_of_ble_eq_true rfl⟩ (Nat.le_of_ble_eq_true rfl) ⟨Nat.le_of_ble_eq_true rfl, Nat.le_of_ble_eq_true rfl⟩ dL_law_225 (fun r2 u2 hr2 h2 => ?_)
  refine x_icmp_eq_t C.1 (tgt := 1504) dL_law_228 (by decide) hr1 hr2 (by omega) ?_
  refine x_iinc C.1 (v := 6) (lv' := [(3, vI 6), (2, .ref (um 0)), (1, .ref (ux 0)), (0, .ref b)]) (by decide) dL_law_1504 0 rfl (by decide) rfl ?_
  refine x_goto C.1 (tgt := 18) dL_law_1507 (by decide) ?_
  refine x_iload_n C.1 dL_law_18 0 rfl ?_
  refine x_aload_n C.1 dL_law_19 3 rfl ?_
  refine x_slen C (b := b) hX hbl hbA dL_law_20 ?_
  refine x_bipush C.1 (n := 6) dL_law_21 ?_
  refine x_isub C.1 rfl dL_law_23 ?_
  refine x_icmp_gt_t C.1 (tgt := 1510) dL_law_24 (by decide) (by decide) (by omega) (by omega) ?_
  refine x_iconst C.1 (n := 1) dL_law_1510 ?_
  exact x_lend C hr dL_law_1511 (Nat.le_of_ble_eq_true rfl) (Nat.le_of_ble_eq_true rfl)
set_option maxHeartbeats 4000000 in
set_option maxRecDepth 100000 in
theorem law_case_1 {p : Program} {e : Env} {s : State} {m : MethodId} {below : List Frame} {meth : Method} {c : Code} (l : Launch) (D : va_G) (cy : Nat → ClassId) {b L : Nat} {xs : Nat → Int32} (C : xC2 p s m #[Value.ref b] meth c D (fun q => s.heap.size ≤ q) s.heap 4 code RL (xTY cy)) (hr : meth.sig.returnType = ret) (hX : va_X b L xs s s.heap) (hbl : b < s.heap.size) (hbA : ¬ (fun q : Nat => s.heap.size ≤ q) b) (hL6 : L = 6) (ux um : Nat → Nat) (cs : Nat × Nat) (hcs : cs = (162, 8366)) : xW p l e room_1 s m #[Value.ref b] below meth c D (fun q => s.heap.size ≤ q) s.heap 4 cs.1 cs.2 (lw_Z below #[Value.ref b] s) (XW cy ux V0x J0 R0x ++ MW cy um V0m J0 R0m) 233 [(3, vI 0), (2, .ref (um 0)), (1, .ref (ux 0)), (0, .ref b)] [] := by
  subst hcs
  refine x_aload_n C.1 dL_law_233 2 rfl ?_
  refine x_aload_n C.1 dL_law_234 3 rfl ?_
  refine x_iload_n C.1 dL_law_235 0 rfl ?_
  refine x_iconst C.1 (n := 1) dL_law_236 ?_
  refine x_iadd C.1 (v := 1) (by decide) dL_law_237 ?_
  refine x_sld C (b := b) (i := 1) hX hbl hbA (by omega) (by omega) dL_law_238 ?_
  rw [show (1 : Int).toNat = 1 from rfl]
  refine x_aload_n C.1 dL_law_239 3 rfl ?_
  refine x_iload_n C.1 dL_law_240 0 rfl ?_
  refine x_iconst C.1 (n := 2) dL_law_241 ?_
  refine x_iadd C.1 (v := 2) (by decide) dL_law_242 ?_
  refine x_sld C (b := b) (i := 2) hX hbl hbA (by omega) (by omega) dL_law_243 ?_
  rw [show (2 : Int).toNat = 2 from rfl]
  refine x_aload_n C.1 dL_law_244 3 rfl ?_
  refine x_iload_n C.1 dL_law_245 0 rfl ?_
  refine x_iconst C.1 (n := 3) dL_law_246 ?_
  refine x_iadd C.1 (v := 3) (by decide) dL_law_247 ?_
  refine x_sld C (b := b) (i := 3) hX hbl hbA (by omega) (by omega) dL_law_248 ?_
  rw [show (3 : Int).toNat = 3 from rfl]
  refine x_callVi C (As := [vI ((xs 1).toInt), vI ((xs 2).toInt), vI ((xs 3).toInt)]) (rest := []) 0 law_x vc_X11 (f_person l D cy ux V0x J0 R0x X_VR X_VJ ((xs 1).toInt) ((xs 2).toInt) ((xs 3).toInt) (xi_r _) (xi_r _) (xi_r _) X_np X_ne X_tl X_to) (l1 := []) (l2 := MW cy um V0m J0 R0m) rfl (w2 := fun u3 => XW cy ux u3.1 u3.2.1 u3.2.2 ++ MW cy um V0m J0 R0m) (fun _ => rfl) rfl wm_yX11_person wn_X11 wl_L_18 wi_yX11_person we_yX11_person hd_yX11_person rfl ⟨Nat.le_of_ble_eq_true rfl, Nat.le_of_ble_eq_true rfl⟩ (Nat.le_of_ble_eq_true rfl) ⟨Nat.le_of_ble_eq_true rfl, Nat.le_of_ble_eq_true rfl⟩ dL_law_249 (fun r3 u3 hr3 h3 => ?_)
  refine x_aload_n C.1 dL_law_252 1 rfl ?_
  refine x_aload_n C.1 dL_law_253 3 rfl ?_
  refine x_iload_n C.1 dL_law_254 0 rfl ?_
  refine x_iconst C.1 (n := 1) dL_law_255 ?_
  refine x_iadd C.1 (v := 1) (by decide) dL_law_256 ?_
  refine x_sld C (b := b) (i := 1) hX hbl hbA (by omega) (by omega) dL_law_257 ?_
  rw [show (1 : Int).toNat = 1 from rfl]
  refine x_aload_n C.1 dL_law_258 3 rfl ?_
  refine x_iload_n C.1 dL_law_259 0 rfl ?_
  refine x_iconst C.1 (n := 2) dL_law_260 ?_
  refine x_iadd C.1 (v := 2) (by decide) dL_law_261 ?_
  refine x_sld C (b := b) (i := 2) hX hbl hbA (by omega) (by omega) dL_law_262 ?_
  rw [show (2 : Int).toNat = 2 from rfl]
  refine x_aload_n C.1 dL_law_263 3 rfl ?_
  refine x_iload_n C.1 dL_law_264 0 rfl ?_
  refine x_iconst C.1 (n := 3) dL_law_265 ?_
  refine x_iadd C.1 (v := 3) (by decide) dL_law_266 ?_
  refine x_sld C (b := b) (i := 3) hX hbl hbA (by omega) (by omega) dL_law_267 ?_
  rw [show (3 : Int).toNat = 3 from rfl]
  refine x_callVi C (As := [vI ((xs 1).toInt), vI ((xs 2).toInt), vI ((xs 3).toInt)]) (rest := [vI r3]) 129 law_m vc_X12 (g_person l D cy um V0m J0 R0m M_VR X_VJ ((xs 1).toInt) ((xs 2).toInt) ((xs 3).toInt) (xi_r _) (xi_r _) (xi_r _) M_76 M_78 M_tp) (l1 := XW cy ux u3.1 u3.2.1 u3.2.2) (l2 := []) (List.append_nil _).symm (w2 := fun u4 : xS => XW cy ux u3.1 u3.2.1 u3.2.2 ++ MW cy um u4.1 u4.2.1 u4.2.2) (fun _ => List.append_nil _) rfl wm_yX12_person wn_X12 wl_L_22 wi_yX12_person we_yX12_person hd_yX12_person rfl ⟨Nat.le_of_ble_eq_true rfl, Nat.le_of_ble_eq_true rfl⟩ (Nat.le_of_ble_eq_true rfl) ⟨Nat.le_of_ble_eq_true rfl, Nat.le_of_ble_eq_true rfl⟩ dL_law_268 (fun r4 u4 hr4 h4 => ?_)
  refine x_icmp_eq_t C.1 (tgt := 1504) dL_law_271 (by decide) hr3 hr4 (by omega) ?_
  refine x_iinc C.1 (v := 6) (lv' := [(3, vI 6), (2, .ref (um 0)), (1, .ref (ux 0)), (0, .ref b)]) (by decide) dL_law_1504 0 rfl (by decide) rfl ?_
  refine x_goto C.1 (tgt := 18) dL_law_1507 (by decide) ?_
  refine x_iload_n C.1 dL_law_18 0 rfl ?_
  refine x_aload_n C.1 dL_law_19 3 rfl ?_
  refine x_slen C (b := b) hX hbl hbA dL_law_20 ?_
  refine x_bipush C.1 (n := 6) dL_law_21 ?_
  refine x_isub C.1 rfl dL_law_23 ?_
  refine x_icmp_gt_t C.1 (tgt := 1510) dL_law_24 (by decide) (by decide) (by omega) (by omega) ?_
  refine x_iconst C.1 (n := 1) dL_law_1510 ?_
  exact x_lend C hr dL_law_1511 (Nat.le_of_ble_eq_true rfl) (Nat.le_of_ble_eq_true rfl)
set_option maxHeartbeats 4000000 in
set_option maxRecDepth 100000 in
theorem law_case_2 {p : Program} {e : Env} {s : State} {m : MethodId} {below : List Frame} {meth : Method} {c : Code} (l : Launch) (D : va_G) (cy : Nat → ClassId) {b L : Nat} {xs : Nat → Int32} (C : xC2 p s m #[Value.ref b] meth c D (fun q => s.heap.size ≤ q) s.heap 4 code RL (xTY cy)) (hr : meth.sig.returnType = ret) (hX : va_X b L xs s s.heap) (hbl : b < s.heap.size) (hbA : ¬ (fun q : Nat => s.heap.size ≤ q) b) (hL6 : L = 6) (ux um : Nat → Nat) (cs : Nat × Nat) (hcs : cs = (162, 8366)) : xW p l e room_1 s m #[Value.ref b] below meth c D (fun q => s.heap.size ≤ q) s.heap 4 cs.1 cs.2 (lw_Z below #[Value.ref b] s) (XW cy ux V0x J0 R0x ++ MW cy um V0m J0 R0m) 276 [(3, vI 0), (2, .ref (um 0)), (1, .ref (ux 0)), (0, .ref b)] [] := by
  subst hcs
  refine x_aload_n C.1 dL_law_276 2 rfl ?_
  refine x_aload_n C.1 dL_law_277 3 rfl ?_
  refine x_iload_n C.1 dL_law_278 0 rfl ?_
  refine x_iconst C.1 (n := 1) dL_law_279 ?_
  refine x_iadd C.1 (v := 1) (by decide) dL_law_280 ?_
  refine x_sld C (b := b) (i := 1) hX hbl hbA (by omega) (by omega) dL_law_281 ?_
  rw [show (1 : Int).toNat = 1 from rfl]
  refine x_aload_n C.1 dL_law_282 3 rfl ?_
  refine x_iload_n C.1 dL_law_283 0 rfl ?_
  refine x_iconst C.1 (n := 2) dL_law_284 ?_
  refine x_iadd C.1 (v := 2) (by decide) dL_law_285 ?_
  refine x_sld C (b := b) (i := 2) hX hbl hbA (by omega) (by omega) dL_law_286 ?_
  rw [show (2 : Int).toNat = 2 from rfl]
  refine x_if_eq C.1 (tgt := 294) dL_law_287 (by decide) (xi_r _) (fun cz5 => ?_) (fun cz5 => ?_)
  · refine x_iconst C.1 (n := 0) dL_law_294 ?_
    refine x_callVi C (As := [vI ((xs 1).toInt), vI 0]) (rest := []) 0 law_x vc_X11 (f_card l D cy ux V0x J0 R0x X_VR X_VJ ((xs 1).toInt) 0 (xi_r _) (by decide) X_np X_ne X_tl) (l1 := []) (l2 := MW cy um V0m J0 R0m) rfl (w2 := fun u6 => XW cy ux V0x J0 R0x ++ MW cy um V0m J0 R0m) (fun _ => rfl) rfl wm_yX11_card wn_X11 wl_L_23 wi_yX11_card we_yX11_card hd_yX11_card rfl ⟨Nat.le_of_ble_eq_true rfl, Nat.le_of_ble_eq_true rfl⟩ (Nat.le_of_ble_eq_true rfl) ⟨Nat.le_of_ble_eq_true rfl, Nat.le_of_ble_eq_true rfl⟩ dL_law_295 (fun r6 u6 hr6 h6 => ?_)
    refine x_aload_n C.1 dL_law_298 1 rfl ?_
    refine x_aload_n C.1 dL_law_299 3 rfl ?_
    refine x_iload_n C.1 dL_law_300 0 rfl ?_
    refine x_iconst C.1 (n := 1) dL_law_301 ?_
    refine x_iadd C.1 (v := 1) (by decide) dL_law_302 ?_
    refine x_sld C (b := b) (i := 1) hX hbl hbA (by omega) (by omega) dL_law_303 ?_
    rw [show (1 : Int).toNat = 1 from rfl]
    refine x_aload_n C.1 dL_law_304 3 rfl ?_
    refine x_iload_n C.1 dL_law_305 0 rfl ?_
    refine x_iconst C.1 (n := 2) dL_law_306 ?_
    refine x_iadd C.1 (v := 2) (by decide) dL_law_307 ?_
    refine x_sld C (b := b) (i := 2) hX hbl hbA (by omega) (by omega) dL_law_308 ?_
    rw [show (2 : Int).toNat = 2 from rfl]
    refine x_if_eq C.1 (tgt := 316) dL_law_309 (by decide) (xi_r _) (fun cz7 => ?_) (fun cz7 => ?_)
    · refine x_iconst C.1 (n := 0) dL_law_316 ?_
      refine x_callVi C (As := [vI ((xs 1).toInt), vI 0]) (rest := [vI r6]) 129 law_m vc_X12 (g_card l D cy um V0m J0 R0m M_VR X_VJ ((xs 1).toInt) 0 (xi_r _) (by decide) M_76 M_78 M_tp) (l1 := XW cy ux V0x J0 R0x) (l2 := []) (List.append_nil _).symm (w2 := fun u8 : Unit => XW cy ux V0x J0 R0x ++ MW cy um V0m J0 R0m) (fun _ => List.append_nil _) rfl wm_yX12_card wn_X12 wl_L_27 wi_yX12_card we_yX12_card hd_yX12_card rfl ⟨Nat.le_of_ble_eq_true rfl, Nat.le_of_ble_eq_true rfl⟩ (Nat.le_of_ble_eq_true rfl) ⟨Nat.le_of_ble_eq_true rfl, Nat.le_of_ble_eq_true rfl⟩ dL_law_317 (fun r8 u8 hr8 h8 => ?_)
      refine x_icmp_eq_t C.1 (tgt := 1504) dL_law_320 (by decide) hr6 hr8 (by omega) ?_
      refine x_iinc C.1 (v := 6) (lv' := [(3, vI 6), (2, .ref (um 0)), (1, .ref (ux 0)), (0, .ref b)]) (by decide) dL_law_1504 0 rfl (by decide) rfl ?_
      refine x_goto C.1 (tgt := 18) dL_law_1507 (by decide) ?_
      refine x_iload_n C.1 dL_law_18 0 rfl ?_
      refine x_aload_n C.1 dL_law_19 3 rfl ?_
      refine x_slen C (b := b) hX hbl hbA dL_law_20 ?_
      refine x_bipush C.1 (n := 6) dL_law_21 ?_
      refine x_isub C.1 rfl dL_law_23 ?_
      refine x_icmp_gt_t C.1 (tgt := 1510) dL_law_24 (by decide) (by decide) (by omega) (by omega) ?_
      refine x_iconst C.1 (n := 1) dL_law_1510 ?_
      exact x_lend C hr dL_law_1511 (Nat.le_of_ble_eq_true rfl) (Nat.le_of_ble_eq_true rfl)
    · refine x_iconst C.1 (n := 1) dL_law_312 ?_
      refine x_goto C.1 (tgt := 317) dL_law_313 (by decide) ?_
      refine x_callVi C (As := [vI ((xs 1).toInt), vI 1]) (rest := [vI r6]) 129 law_m vc_X12 (g_card l D cy um V0m J0 R0m M_VR X_VJ ((xs 1).toInt) 1 (xi_r _) (by decide) M_76 M_78 M_tp) (l1 := XW cy ux V0x J0 R0x) (l2 := []) (List.append_nil _).symm (w2 := fun u9 : Unit => XW cy ux V0x J0 R0x ++ MW cy um V0m J0 R0m) (fun _ => List.append_nil _) rfl wm_yX12_card wn_X12 wl_L_27 wi_yX12_card we_yX12_card hd_yX12_card rfl ⟨Nat.le_of_ble_eq_true rfl, Nat.le_of_ble_eq_true rfl⟩ (Nat.le_of_ble_eq_true rfl) ⟨Nat.le_of_ble_eq_true rfl, Nat.le_of_ble_eq_true rfl⟩ dL_law_317 (fun r9 u9 hr9 h9 => ?_)
      refine x_icmp_eq_t C.1 (tgt := 1504) dL_law_320 (by decide) hr6 hr9 (by omega) ?_
      refine x_iinc C.1 (v := 6) (lv' := [(3, vI 6), (2, .ref (um 0)), (1, .ref (ux 0)), (0, .ref b)]) (by decide) dL_law_1504 0 rfl (by decide) rfl ?_
      refine x_goto C.1 (tgt := 18) dL_law_1507 (by decide) ?_
      refine x_iload_n C.1 dL_law_18 0 rfl ?_
      refine x_aload_n C.1 dL_law_19 3 rfl ?_
      refine x_slen C (b := b) hX hbl hbA dL_law_20 ?_
      refine x_bipush C.1 (n := 6) dL_law_21 ?_
      refine x_isub C.1 rfl dL_law_23 ?_
      refine x_icmp_gt_t C.1 (tgt := 1510) dL_law_24 (by decide) (by decide) (by omega) (by omega) ?_
      refine x_iconst C.1 (n := 1) dL_law_1510 ?_
      exact x_lend C hr dL_law_1511 (Nat.le_of_ble_eq_true rfl) (Nat.le_of_ble_eq_true rfl)
  · refine x_iconst C.1 (n := 1) dL_law_290 ?_
    refine x_goto C.1 (tgt := 295) dL_law_291 (by decide) ?_
    refine x_callVi C (As := [vI ((xs 1).toInt), vI 1]) (rest := []) 0 law_x vc_X11 (f_card l D cy ux V0x J0 R0x X_VR X_VJ ((xs 1).toInt) 1 (xi_r _) (by decide) X_np X_ne X_tl) (l1 := []) (l2 := MW cy um V0m J0 R0m) rfl (w2 := fun u10 => XW cy ux V0x J0 R0x ++ MW cy um V0m J0 R0m) (fun _ => rfl) rfl wm_yX11_card wn_X11 wl_L_23 wi_yX11_card we_yX11_card hd_yX11_card rfl ⟨Nat.le_of_ble_eq_true rfl, Nat.le_of_ble_eq_true rfl⟩ (Nat.le_of_ble_eq_true rfl) ⟨Nat.le_of_ble_eq_true rfl, Nat.le_of_ble_eq_true rfl⟩ dL_law_295 (fun r10 u10 hr10 h10 => ?_)
    refine x_aload_n C.1 dL_law_298 1 rfl ?_
    refine x_aload_n C.1 dL_law_299 3 rfl ?_
    refine x_iload_n C.1 dL_law_300 0 rfl ?_
    refine x_iconst C.1 (n := 1) dL_law_301 ?_
    refine x_iadd C.1 (v := 1) (by decide) dL_law_302 ?_
    refine x_sld C (b := b) (i := 1) hX hbl hbA (by omega) (by omega) dL_law_303 ?_
    rw [show (1 : Int).toNat = 1 from rfl]
    refine x_aload_n C.1 dL_law_304 3 rfl ?_
    refine x_iload_n C.1 dL_law_305 0 rfl ?_
    refine x_iconst C.1 (n := 2) dL_law_306 ?_
    refine x_iadd C.1 (v := 2) (by decide) dL_law_307 ?_
    refine x_sld C (b := b) (i := 2) hX hbl hbA (by omega) (by omega) dL_law_308 ?_
    rw [show (2 : Int).toNat = 2 from rfl]
    refine x_if_eq C.1 (tgt := 316) dL_law_309 (by decide) (xi_r _) (fun cz11 => ?_) (fun cz11 => ?_)
    · refine x_iconst C.1 (n := 0) dL_law_316 ?_
      refine x_callVi C (As := [vI ((xs 1).toInt), vI 0]) (rest := [vI r10]) 129 law_m vc_X12 (g_card l D cy um V0m J0 R0m M_VR X_VJ ((xs 1).toInt) 0 (xi_r _) (by decide) M_76 M_78 M_tp) (l1 := XW cy ux V0x J0 R0x) (l2 := []) (List.append_nil _).symm (w2 := fun u12 : Unit => XW cy ux V0x J0 R0x ++ MW cy um V0m J0 R0m) (fun _ => List.append_nil _) rfl wm_yX12_card wn_X12 wl_L_27 wi_yX12_card we_yX12_card hd_yX12_card rfl ⟨Nat.le_of_ble_eq_true rfl, Nat.le_of_ble_eq_true rfl⟩ (Nat.le_of_ble_eq_true rfl) ⟨Nat.le_of_ble_eq_true rfl, Nat.le_of_ble_eq_true rfl⟩ dL_law_317 (fun r12 u12 hr12 h12 => ?_)
      refine x_icmp_eq_t C.1 (tgt := 1504) dL_law_320 (by decide) hr10 hr12 (by omega) ?_
      refine x_iinc C.1 (v := 6) (lv' := [(3, vI 6), (2, .ref (um 0)), (1, .ref (ux 0)), (0, .ref b)]) (by decide) dL_law_1504 0 rfl (by decide) rfl ?_
      refine x_goto C.1 (tgt := 18) dL_law_1507 (by decide) ?_
      refine x_iload_n C.1 dL_law_18 0 rfl ?_
      refine x_aload_n C.1 dL_law_19 3 rfl ?_
      refine x_slen C (b := b) hX hbl hbA dL_law_20 ?_
      refine x_bipush C.1 (n := 6) dL_law_21 ?_
      refine x_isub C.1 rfl dL_law_23 ?_
      refine x_icmp_gt_t C.1 (tgt := 1510) dL_law_24 (by decide) (by decide) (by omega) (by omega) ?_
      refine x_iconst C.1 (n := 1) dL_law_1510 ?_
      exact x_lend C hr dL_law_1511 (Nat.le_of_ble_eq_true rfl) (Nat.le_of_ble_eq_true rfl)
    · refine x_iconst C.1 (n := 1) dL_law_312 ?_
      refine x_goto C.1 (tgt := 317) dL_law_313 (by decide) ?_
      refine x_callVi C (As := [vI ((xs 1).toInt), vI 1]) (rest := [vI r10]) 129 law_m vc_X12 (g_card l D cy um V0m J0 R0m M_VR X_VJ ((xs 1).toInt) 1 (xi_r _) (by decide) M_76 M_78 M_tp) (l1 := XW cy ux V0x J0 R0x) (l2 := []) (List.append_nil _).symm (w2 := fun u13 : Unit => XW cy ux V0x J0 R0x ++ MW cy um V0m J0 R0m) (fun _ => List.append_nil _) rfl wm_yX12_card wn_X12 wl_L_27 wi_yX12_card we_yX12_card hd_yX12_card rfl ⟨Nat.le_of_ble_eq_true rfl, Nat.le_of_ble_eq_true rfl⟩ (Nat.le_of_ble_eq_true rfl) ⟨Nat.le_of_ble_eq_true rfl, Nat.le_of_ble_eq_true rfl⟩ dL_law_317 (fun r13 u13 hr13 h13 => ?_)
      refine x_icmp_eq_t C.1 (tgt := 1504) dL_law_320 (by decide) hr10 hr13 (by omega) ?_
      refine x_iinc C.1 (v := 6) (lv' := [(3, vI 6), (2, .ref (um 0)), (1, .ref (ux 0)), (0, .ref b)]) (by decide) dL_law_1504 0 rfl (by decide) rfl ?_
      refine x_goto C.1 (tgt := 18) dL_law_1507 (by decide) ?_
      refine x_iload_n C.1 dL_law_18 0 rfl ?_
      refine x_aload_n C.1 dL_law_19 3 rfl ?_
      refine x_slen C (b := b) hX hbl hbA dL_law_20 ?_
      refine x_bipush C.1 (n := 6) dL_law_21 ?_
      refine x_isub C.1 rfl dL_law_23 ?_
      refine x_icmp_gt_t C.1 (tgt := 1510) dL_law_24 (by decide) (by decide) (by omega) (by omega) ?_
      refine x_iconst C.1 (n := 1) dL_law_1510 ?_
      exact x_lend C hr dL_law_1511 (Nat.le_of_ble_eq_true rfl) (Nat.le_of_ble_eq_true rfl)
set_option maxHeartbeats 4000000 in
set_option maxRecDepth 100000 in
theorem law_case_3 {p : Program} {e : Env} {s : State} {m : MethodId} {below : List Frame} {meth : Method} {c : Code} (l : Launch) (D : va_G) (cy : Nat → ClassId) {b L : Nat} {xs : Nat → Int32} (C : xC2 p s m #[Value.ref b] meth c D (fun q => s.heap.size ≤ q) s.heap 4 code RL (xTY cy)) (hr : meth.sig.returnType = ret) (hX : va_X b L xs s s.heap) (hbl : b < s.heap.size) (hbA : ¬ (fun q : Nat => s.heap.size ≤ q) b) (hL6 : L = 6) (ux um : Nat → Nat) (cs : Nat × Nat) (hcs : cs = (162, 8366)) : xW p l e room_1 s m #[Value.ref b] below meth c D (fun q => s.heap.size ≤ q) s.heap 4 cs.1 cs.2 (lw_Z below #[Value.ref b] s) (XW cy ux V0x J0 R0x ++ MW cy um V0m J0 R0m) 325 [(3, vI 0), (2, .ref (um 0)), (1, .ref (ux 0)), (0, .ref b)] [] := by
  subst hcs
  refine x_aload_n C.1 dL_law_325 2 rfl ?_
  refine x_aload_n C.1 dL_law_326 3 rfl ?_
  refine x_iload_n C.1 dL_law_327 0 rfl ?_
  refine x_iconst C.1 (n := 1) dL_law_328 ?_
  refine x_iadd C.1 (v := 1) (by decide) dL_law_329 ?_
  refine x_sld C (b := b) (i := 1) hX hbl hbA (by omega) (by omega) dL_law_330 ?_
  rw [show (1 : Int).toNat = 1 from rfl]
  refine x_aload_n C.1 dL_law_331 3 rfl ?_
  refine x_iload_n C.1 dL_law_332 0 rfl ?_
  refine x_iconst C.1 (n := 2) dL_law_333 ?_
  refine x_iadd C.1 (v := 2) (by decide) dL_law_334 ?_
  refine x_sld C (b := b) (i := 2) hX hbl hbA (by omega) (by omega) dL_law_335 ?_
  rw [show (2 : Int).toNat = 2 from rfl]
  refine x_callVi C (As := [vI ((xs 1).toInt), vI ((xs 2).toInt)]) (rest := []) 0 law_x vc_X11 (f_pour l D cy ux V0x J0 R0x X_VR X_VJ ((xs 1).toInt) ((xs 2).toInt) (xi_r _) (xi_r _) X_np X_ne X_tl) (l1 := []) (l2 := MW cy um V0m J0 R0m) rfl (w2 := fun u14 => XW cy ux V0x J0 R0x ++ MW cy um V0m J0 R0m) (fun _ => rfl) rfl wm_yX11_pour wn_X11 wl_L_28 wi_yX11_pour we_yX11_pour hd_yX11_pour rfl ⟨Nat.le_of_ble_eq_true rfl, Nat.le_of_ble_eq_true rfl⟩ (Nat.le_of_ble_eq_true rfl) ⟨Nat.le_of_ble_eq_true rfl, Nat.le_of_ble_eq_true rfl⟩ dL_law_336 (fun r14 u14 hr14 h14 => ?_)
  refine x_aload_n C.1 dL_law_339 1 rfl ?_
  refine x_aload_n C.1 dL_law_340 3 rfl ?_
  refine x_iload_n C.1 dL_law_341 0 rfl ?_
  refine x_iconst C.1 (n := 1) dL_law_342 ?_
  refine x_iadd C.1 (v := 1) (by decide) dL_law_343 ?_
  refine x_sld C (b := b) (i := 1) hX hbl hbA (by omega) (by omega) dL_law_344 ?_
  rw [show (1 : Int).toNat = 1 from rfl]
  refine x_aload_n C.1 dL_law_345 3 rfl ?_
  refine x_iload_n C.1 dL_law_346 0 rfl ?_
  refine x_iconst C.1 (n := 2) dL_law_347 ?_
  refine x_iadd C.1 (v := 2) (by decide) dL_law_348 ?_
  refine x_sld C (b := b) (i := 2) hX hbl hbA (by omega) (by omega) dL_law_349 ?_
  rw [show (2 : Int).toNat = 2 from rfl]
  refine x_callVi C (As := [vI ((xs 1).toInt), vI ((xs 2).toInt)]) (rest := [vI r14]) 129 law_m vc_X12 (g_pour l D cy um V0m J0 R0m M_VR X_VJ ((xs 1).toInt) ((xs 2).toInt) (xi_r _) (xi_r _) M_76 M_78 M_tp) (l1 := XW cy ux V0x J0 R0x) (l2 := []) (List.append_nil _).symm (w2 := fun u15 : Unit => XW cy ux V0x J0 R0x ++ MW cy um V0m J0 R0m) (fun _ => List.append_nil _) rfl wm_yX12_pour wn_X12 wl_L_32 wi_yX12_pour we_yX12_pour hd_yX12_pour rfl ⟨Nat.le_of_ble_eq_true rfl, Nat.le_of_ble_eq_true rfl⟩ (Nat.le_of_ble_eq_true rfl) ⟨Nat.le_of_ble_eq_true rfl, Nat.le_of_ble_eq_true rfl⟩ dL_law_350 (fun r15 u15 hr15 h15 => ?_)
  refine x_icmp_eq_t C.1 (tgt := 1504) dL_law_353 (by decide) hr14 hr15 (by omega) ?_
  refine x_iinc C.1 (v := 6) (lv' := [(3, vI 6), (2, .ref (um 0)), (1, .ref (ux 0)), (0, .ref b)]) (by decide) dL_law_1504 0 rfl (by decide) rfl ?_
  refine x_goto C.1 (tgt := 18) dL_law_1507 (by decide) ?_
  refine x_iload_n C.1 dL_law_18 0 rfl ?_
  refine x_aload_n C.1 dL_law_19 3 rfl ?_
  refine x_slen C (b := b) hX hbl hbA dL_law_20 ?_
  refine x_bipush C.1 (n := 6) dL_law_21 ?_
  refine x_isub C.1 rfl dL_law_23 ?_
  refine x_icmp_gt_t C.1 (tgt := 1510) dL_law_24 (by decide) (by decide) (by omega) (by omega) ?_
  refine x_iconst C.1 (n := 1) dL_law_1510 ?_
  exact x_lend C hr dL_law_1511 (Nat.le_of_ble_eq_true rfl) (Nat.le_of_ble_eq_true rfl)
set_option maxHeartbeats 4000000 in
set_option maxRecDepth 100000 in
theorem law_case_4 {p : Program} {e : Env} {s : State} {m : MethodId} {below : List Frame} {meth : Method} {c : Code} (l : Launch) (D : va_G) (cy : Nat → ClassId) {b L : Nat} {xs : Nat → Int32} (C : xC2 p s m #[Value.ref b] meth c D (fun q => s.heap.size ≤ q) s.heap 4 code RL (xTY cy)) (hr : meth.sig.returnType = ret) (hX : va_X b L xs s s.heap) (hbl : b < s.heap.size) (hbA : ¬ (fun q : Nat => s.heap.size ≤ q) b) (hL6 : L = 6) (ux um : Nat → Nat) (cs : Nat × Nat) (hcs : cs = (162, 8366)) : xW p l e room_1 s m #[Value.ref b] below meth c D (fun q => s.heap.size ≤ q) s.heap 4 cs.1 cs.2 (lw_Z below #[Value.ref b] s) (XW cy ux V0x J0 R0x ++ MW cy um V0m J0 R0m) 358 [(3, vI 0), (2, .ref (um 0)), (1, .ref (ux 0)), (0, .ref b)] [] := by
  subst hcs
  refine x_aload_n C.1 dL_law_358 2 rfl ?_
  refine x_aload_n C.1 dL_law_359 3 rfl ?_
  refine x_iload_n C.1 dL_law_360 0 rfl ?_
  refine x_iconst C.1 (n := 1) dL_law_361 ?_
  refine x_iadd C.1 (v := 1) (by decide) dL_law_362 ?_
  refine x_sld C (b := b) (i := 1) hX hbl hbA (by omega) (by omega) dL_law_363 ?_
  rw [show (1 : Int).toNat = 1 from rfl]
  refine x_aload_n C.1 dL_law_364 3 rfl ?_
  refine x_iload_n C.1 dL_law_365 0 rfl ?_
  refine x_iconst C.1 (n := 2) dL_law_366 ?_
  refine x_iadd C.1 (v := 2) (by decide) dL_law_367 ?_
  refine x_sld C (b := b) (i := 2) hX hbl hbA (by omega) (by omega) dL_law_368 ?_
  rw [show (2 : Int).toNat = 2 from rfl]
  refine x_aload_n C.1 dL_law_369 3 rfl ?_
  refine x_iload_n C.1 dL_law_370 0 rfl ?_
  refine x_iconst C.1 (n := 3) dL_law_371 ?_
  refine x_iadd C.1 (v := 3) (by decide) dL_law_372 ?_
  refine x_sld C (b := b) (i := 3) hX hbl hbA (by omega) (by omega) dL_law_373 ?_
  rw [show (3 : Int).toNat = 3 from rfl]
  refine x_aload_n C.1 dL_law_374 3 rfl ?_
  refine x_iload_n C.1 dL_law_375 0 rfl ?_
  refine x_iconst C.1 (n := 4) dL_law_376 ?_
  refine x_iadd C.1 (v := 4) (by decide) dL_law_377 ?_
  refine x_sld C (b := b) (i := 4) hX hbl hbA (by omega) (by omega) dL_law_378 ?_
  rw [show (4 : Int).toNat = 4 from rfl]
  refine x_aload_n C.1 dL_law_379 3 rfl ?_
  refine x_iload_n C.1 dL_law_380 0 rfl ?_
  refine x_iconst C.1 (n := 5) dL_law_381 ?_
  refine x_iadd C.1 (v := 5) (by decide) dL_law_382 ?_
  refine x_sld C (b := b) (i := 5) hX hbl hbA (by omega) (by omega) dL_law_383 ?_
  rw [show (5 : Int).toNat = 5 from rfl]
  refine x_callVi C (As := [vI ((xs 1).toInt), vI ((xs 2).toInt), vI ((xs 3).toInt), vI ((xs 4).toInt), vI ((xs 5).toInt)]) (rest := []) 0 law_x vc_X11 (f_feed l D cy ux V0x J0 R0x X_VR X_VJ ((xs 1).toInt) ((xs 2).toInt) ((xs 3).toInt) ((xs 4).toInt) ((xs 5).toInt) (xi_r _) (xi_r _) (xi_r _) (xi_r _) (xi_r _) X_np X_ne X_tl) (l1 := []) (l2 := MW cy um V0m J0 R0m) rfl (w2 := fun u16 => XW cy ux u16.1 u16.2.1 u16.2.2 ++ MW cy um V0m J0 R0m) (fun _ => rfl) rfl wm_yX11_feed wn_X11 wl_L_33 wi_yX11_feed we_yX11_feed hd_yX11_feed rfl ⟨Nat.le_of_ble_eq_true rfl, Nat.le_of_ble_eq_true rfl⟩ (Nat.le_of_ble_eq_true rfl) ⟨Nat.le_of_ble_eq_true rfl, Nat.le_of_ble_eq_true rfl⟩ dL_law_384 (fun r16 u16 hr16 h16 => ?_)
  refine x_aload_n C.1 dL_law_387 1 rfl ?_
  refine x_aload_n C.1 dL_law_388 3 rfl ?_
  refine x_iload_n C.1 dL_law_389 0 rfl ?_
  refine x_iconst C.1 (n := 1) dL_law_390 ?_
  refine x_iadd C.1 (v := 1) (by decide) dL_law_391 ?_
  refine x_sld C (b := b) (i := 1) hX hbl hbA (by omega) (by omega) dL_law_392 ?_
  rw [show (1 : Int).toNat = 1 from rfl]
  refine x_aload_n C.1 dL_law_393 3 rfl ?_
  refine x_iload_n C.1 dL_law_394 0 rfl ?_
  refine x_iconst C.1 (n := 2) dL_law_395 ?_
  refine x_iadd C.1 (v := 2) (by decide) dL_law_396 ?_
  refine x_sld C (b := b) (i := 2) hX hbl hbA (by omega) (by omega) dL_law_397 ?_
  rw [show (2 : Int).toNat = 2 from rfl]
  refine x_aload_n C.1 dL_law_398 3 rfl ?_
  refine x_iload_n C.1 dL_law_399 0 rfl ?_
  refine x_iconst C.1 (n := 3) dL_law_400 ?_
  refine x_iadd C.1 (v := 3) (by decide) dL_law_401 ?_
  refine x_sld C (b := b) (i := 3) hX hbl hbA (by omega) (by omega) dL_law_402 ?_
  rw [show (3 : Int).toNat = 3 from rfl]
  refine x_aload_n C.1 dL_law_403 3 rfl ?_
  refine x_iload_n C.1 dL_law_404 0 rfl ?_
  refine x_iconst C.1 (n := 4) dL_law_405 ?_
  refine x_iadd C.1 (v := 4) (by decide) dL_law_406 ?_
  refine x_sld C (b := b) (i := 4) hX hbl hbA (by omega) (by omega) dL_law_407 ?_
  rw [show (4 : Int).toNat = 4 from rfl]
  refine x_aload_n C.1 dL_law_408 3 rfl ?_
  refine x_iload_n C.1 dL_law_409 0 rfl ?_
  refine x_iconst C.1 (n := 5) dL_law_410 ?_
  refine x_iadd C.1 (v := 5) (by decide) dL_law_411 ?_
  refine x_sld C (b := b) (i := 5) hX hbl hbA (by omega) (by omega) dL_law_412 ?_
  rw [show (5 : Int).toNat = 5 from rfl]
  refine x_callVi C (As := [vI ((xs 1).toInt), vI ((xs 2).toInt), vI ((xs 3).toInt), vI ((xs 4).toInt), vI ((xs 5).toInt)]) (rest := [vI r16]) 129 law_m vc_X12 (g_feed l D cy um V0m J0 R0m M_VR X_VJ ((xs 1).toInt) ((xs 2).toInt) ((xs 3).toInt) ((xs 4).toInt) ((xs 5).toInt) (xi_r _) (xi_r _) (xi_r _) (xi_r _) (xi_r _) M_76 M_78 M_tp) (l1 := XW cy ux u16.1 u16.2.1 u16.2.2) (l2 := []) (List.append_nil _).symm (w2 := fun u17 : xS => XW cy ux u16.1 u16.2.1 u16.2.2 ++ MW cy um u17.1 u17.2.1 u17.2.2) (fun _ => List.append_nil _) rfl wm_yX12_feed wn_X12 wl_L_37 wi_yX12_feed we_yX12_feed hd_yX12_feed rfl ⟨Nat.le_of_ble_eq_true rfl, Nat.le_of_ble_eq_true rfl⟩ (Nat.le_of_ble_eq_true rfl) ⟨Nat.le_of_ble_eq_true rfl, Nat.le_of_ble_eq_true rfl⟩ dL_law_413 (fun r17 u17 hr17 h17 => ?_)
  refine x_icmp_eq_t C.1 (tgt := 1504) dL_law_416 (by decide) hr16 hr17 (by omega) ?_
  refine x_iinc C.1 (v := 6) (lv' := [(3, vI 6), (2, .ref (um 0)), (1, .ref (ux 0)), (0, .ref b)]) (by decide) dL_law_1504 0 rfl (by decide) rfl ?_
  refine x_goto C.1 (tgt := 18) dL_law_1507 (by decide) ?_
  refine x_iload_n C.1 dL_law_18 0 rfl ?_
  refine x_aload_n C.1 dL_law_19 3 rfl ?_
  refine x_slen C (b := b) hX hbl hbA dL_law_20 ?_
  refine x_bipush C.1 (n := 6) dL_law_21 ?_
  refine x_isub C.1 rfl dL_law_23 ?_
  refine x_icmp_gt_t C.1 (tgt := 1510) dL_law_24 (by decide) (by decide) (by omega) (by omega) ?_
  refine x_iconst C.1 (n := 1) dL_law_1510 ?_
  exact x_lend C hr dL_law_1511 (Nat.le_of_ble_eq_true rfl) (Nat.le_of_ble_eq_true rfl)
set_option maxHeartbeats 4000000 in
set_option maxRecDepth 100000 in
theorem law_case_5 {p : Program} {e : Env} {s : State} {m : MethodId} {below : List Frame} {meth : Method} {c : Code} (l : Launch) (D : va_G) (cy : Nat → ClassId) {b L : Nat} {xs : Nat → Int32} (C : xC2 p s m #[Value.ref b] meth c D (fun q => s.heap.size ≤ q) s.heap 4 code RL (xTY cy)) (hr : meth.sig.returnType = ret) (hX : va_X b L xs s s.heap) (hbl : b < s.heap.size) (hbA : ¬ (fun q : Nat => s.heap.size ≤ q) b) (hL6 : L = 6) (ux um : Nat → Nat) (cs : Nat × Nat) (hcs : cs = (162, 8366)) : xW p l e room_1 s m #[Value.ref b] below meth c D (fun q => s.heap.size ≤ q) s.heap 4 cs.1 cs.2 (lw_Z below #[Value.ref b] s) (XW cy ux V0x J0 R0x ++ MW cy um V0m J0 R0m) 421 [(3, vI 0), (2, .ref (um 0)), (1, .ref (ux 0)), (0, .ref b)] [] := by
  subst hcs
  refine x_aload_n C.1 dL_law_421 2 rfl ?_
  refine x_aload_n C.1 dL_law_422 3 rfl ?_
  refine x_iload_n C.1 dL_law_423 0 rfl ?_
  refine x_iconst C.1 (n := 1) dL_law_424 ?_
  refine x_iadd C.1 (v := 1) (by decide) dL_law_425 ?_
  refine x_sld C (b := b) (i := 1) hX hbl hbA (by omega) (by omega) dL_law_426 ?_
  rw [show (1 : Int).toNat = 1 from rfl]
  refine x_callVi C (As := [vI ((xs 1).toInt)]) (rest := []) 0 law_x vc_X11 (f_law l D cy ux V0x J0 R0x X_VR X_VJ ((xs 1).toInt) (xi_r _) X_np X_ne X_tl) (l1 := []) (l2 := MW cy um V0m J0 R0m) rfl (w2 := fun u18 => XW cy ux V0x J0 R0x ++ MW cy um V0m J0 R0m) (fun _ => rfl) rfl wm_yX11_law wn_X11 wl_L_38 wi_yX11_law we_yX11_law hd_yX11_law rfl ⟨Nat.le_of_ble_eq_true rfl, Nat.le_of_ble_eq_true rfl⟩ (Nat.le_of_ble_eq_true rfl) ⟨Nat.le_of_ble_eq_true rfl, Nat.le_of_ble_eq_true rfl⟩ dL_law_427 (fun r18 u18 hr18 h18 => ?_)
  refine x_aload_n C.1 dL_law_430 1 rfl ?_
  refine x_aload_n C.1 dL_law_431 3 rfl ?_
  refine x_iload_n C.1 dL_law_432 0 rfl ?_
  refine x_iconst C.1 (n := 1) dL_law_433 ?_
  refine x_iadd C.1 (v := 1) (by decide) dL_law_434 ?_
  refine x_sld C (b := b) (i := 1) hX hbl hbA (by omega) (by omega) dL_law_435 ?_
  rw [show (1 : Int).toNat = 1 from rfl]
  refine x_callVi C (As := [vI ((xs 1).toInt)]) (rest := [vI r18]) 129 law_m vc_X12 (g_law l D cy um V0m J0 R0m M_VR X_VJ ((xs 1).toInt) (xi_r _) M_76 M_78 M_tp) (l1 := XW cy ux V0x J0 R0x) (l2 := []) (List.append_nil _).symm (w2 := fun u19 : Unit => XW cy ux V0x J0 R0x ++ MW cy um V0m J0 R0m) (fun _ => List.append_nil _) rfl wm_yX12_law wn_X12 wl_L_42 wi_yX12_law we_yX12_law hd_yX12_law rfl ⟨Nat.le_of_ble_eq_true rfl, Nat.le_of_ble_eq_true rfl⟩ (Nat.le_of_ble_eq_true rfl) ⟨Nat.le_of_ble_eq_true rfl, Nat.le_of_ble_eq_true rfl⟩ dL_law_436 (fun r19 u19 hr19 h19 => ?_)
  refine x_icmp_eq_t C.1 (tgt := 1504) dL_law_439 (by decide) hr18 hr19 (by omega) ?_
  refine x_iinc C.1 (v := 6) (lv' := [(3, vI 6), (2, .ref (um 0)), (1, .ref (ux 0)), (0, .ref b)]) (by decide) dL_law_1504 0 rfl (by decide) rfl ?_
  refine x_goto C.1 (tgt := 18) dL_law_1507 (by decide) ?_
  refine x_iload_n C.1 dL_law_18 0 rfl ?_
  refine x_aload_n C.1 dL_law_19 3 rfl ?_
  refine x_slen C (b := b) hX hbl hbA dL_law_20 ?_
  refine x_bipush C.1 (n := 6) dL_law_21 ?_
  refine x_isub C.1 rfl dL_law_23 ?_
  refine x_icmp_gt_t C.1 (tgt := 1510) dL_law_24 (by decide) (by decide) (by omega) (by omega) ?_
  refine x_iconst C.1 (n := 1) dL_law_1510 ?_
  exact x_lend C hr dL_law_1511 (Nat.le_of_ble_eq_true rfl) (Nat.le_of_ble_eq_true rfl)
set_option maxHeartbeats 4000000 in
set_option maxRecDepth 100000 in
theorem law_case_6 {p : Program} {e : Env} {s : State} {m : MethodId} {below : List Frame} {meth : Method} {c : Code} (l : Launch) (D : va_G) (cy : Nat → ClassId) {b L : Nat} {xs : Nat → Int32} (C : xC2 p s m #[Value.ref b] meth c D (fun q => s.heap.size ≤ q) s.heap 4 code RL (xTY cy)) (hr : meth.sig.returnType = ret) (hX : va_X b L xs s s.heap) (hbl : b < s.heap.size) (hbA : ¬ (fun q : Nat => s.heap.size ≤ q) b) (hL6 : L = 6) (ux um : Nat → Nat) (cs : Nat × Nat) (hcs : cs = (162, 8366)) : xW p l e room_1 s m #[Value.ref b] below meth c D (fun q => s.heap.size ≤ q) s.heap 4 cs.1 cs.2 (lw_Z below #[Value.ref b] s) (XW cy ux V0x J0 R0x ++ MW cy um V0m J0 R0m) 444 [(3, vI 0), (2, .ref (um 0)), (1, .ref (ux 0)), (0, .ref b)] [] := by
  subst hcs
  refine x_aload_n C.1 dL_law_444 2 rfl ?_
  refine x_aload_n C.1 dL_law_445 3 rfl ?_
  refine x_iload_n C.1 dL_law_446 0 rfl ?_
  refine x_iconst C.1 (n := 1) dL_law_447 ?_
  refine x_iadd C.1 (v := 1) (by decide) dL_law_448 ?_
  refine x_sld C (b := b) (i := 1) hX hbl hbA (by omega) (by omega) dL_law_449 ?_
  rw [show (1 : Int).toNat = 1 from rfl]
  refine x_aload_n C.1 dL_law_450 3 rfl ?_
  refine x_iload_n C.1 dL_law_451 0 rfl ?_
  refine x_iconst C.1 (n := 2) dL_law_452 ?_
  refine x_iadd C.1 (v := 2) (by decide) dL_law_453 ?_
  refine x_sld C (b := b) (i := 2) hX hbl hbA (by omega) (by omega) dL_law_454 ?_
  rw [show (2 : Int).toNat = 2 from rfl]
  refine x_callVi C (As := [vI ((xs 1).toInt), vI ((xs 2).toInt)]) (rest := []) 0 law_x vc_X11 (f_rule l D cy ux V0x J0 R0x X_VR X_VJ ((xs 1).toInt) ((xs 2).toInt) (xi_r _) (xi_r _) X_np X_ne X_tl) (l1 := []) (l2 := MW cy um V0m J0 R0m) rfl (w2 := fun u20 => XW cy ux V0x J0 R0x ++ MW cy um V0m J0 R0m) (fun _ => rfl) rfl wm_yX11_rule wn_X11 wl_L_43 wi_yX11_rule we_yX11_rule hd_yX11_rule rfl ⟨Nat.le_of_ble_eq_true rfl, Nat.le_of_ble_eq_true rfl⟩ (Nat.le_of_ble_eq_true rfl) ⟨Nat.le_of_ble_eq_true rfl, Nat.le_of_ble_eq_true rfl⟩ dL_law_455 (fun r20 u20 hr20 h20 => ?_)
  refine x_aload_n C.1 dL_law_458 1 rfl ?_
  refine x_aload_n C.1 dL_law_459 3 rfl ?_
  refine x_iload_n C.1 dL_law_460 0 rfl ?_
  refine x_iconst C.1 (n := 1) dL_law_461 ?_
  refine x_iadd C.1 (v := 1) (by decide) dL_law_462 ?_
  refine x_sld C (b := b) (i := 1) hX hbl hbA (by omega) (by omega) dL_law_463 ?_
  rw [show (1 : Int).toNat = 1 from rfl]
  refine x_aload_n C.1 dL_law_464 3 rfl ?_
  refine x_iload_n C.1 dL_law_465 0 rfl ?_
  refine x_iconst C.1 (n := 2) dL_law_466 ?_
  refine x_iadd C.1 (v := 2) (by decide) dL_law_467 ?_
  refine x_sld C (b := b) (i := 2) hX hbl hbA (by omega) (by omega) dL_law_468 ?_
  rw [show (2 : Int).toNat = 2 from rfl]
  refine x_callVi C (As := [vI ((xs 1).toInt), vI ((xs 2).toInt)]) (rest := [vI r20]) 129 law_m vc_X12 (g_rule l D cy um V0m J0 R0m M_VR X_VJ ((xs 1).toInt) ((xs 2).toInt) (xi_r _) (xi_r _) M_76 M_78 M_tp) (l1 := XW cy ux V0x J0 R0x) (l2 := []) (List.append_nil _).symm (w2 := fun u21 : Unit => XW cy ux V0x J0 R0x ++ MW cy um V0m J0 R0m) (fun _ => List.append_nil _) rfl wm_yX12_rule wn_X12 wl_L_46 wi_yX12_rule we_yX12_rule hd_yX12_rule rfl ⟨Nat.le_of_ble_eq_true rfl, Nat.le_of_ble_eq_true rfl⟩ (Nat.le_of_ble_eq_true rfl) ⟨Nat.le_of_ble_eq_true rfl, Nat.le_of_ble_eq_true rfl⟩ dL_law_469 (fun r21 u21 hr21 h21 => ?_)
  refine x_icmp_eq_t C.1 (tgt := 1504) dL_law_472 (by decide) hr20 hr21 (by omega) ?_
  refine x_iinc C.1 (v := 6) (lv' := [(3, vI 6), (2, .ref (um 0)), (1, .ref (ux 0)), (0, .ref b)]) (by decide) dL_law_1504 0 rfl (by decide) rfl ?_
  refine x_goto C.1 (tgt := 18) dL_law_1507 (by decide) ?_
  refine x_iload_n C.1 dL_law_18 0 rfl ?_
  refine x_aload_n C.1 dL_law_19 3 rfl ?_
  refine x_slen C (b := b) hX hbl hbA dL_law_20 ?_
  refine x_bipush C.1 (n := 6) dL_law_21 ?_
  refine x_isub C.1 rfl dL_law_23 ?_
  refine x_icmp_gt_t C.1 (tgt := 1510) dL_law_24 (by decide) (by decide) (by omega) (by omega) ?_
  refine x_iconst C.1 (n := 1) dL_law_1510 ?_
  exact x_lend C hr dL_law_1511 (Nat.le_of_ble_eq_true rfl) (Nat.le_of_ble_eq_true rfl)
set_option maxHeartbeats 4000000 in
set_option maxRecDepth 100000 in
theorem law_case_7 {p : Program} {e : Env} {s : State} {m : MethodId} {below : List Frame} {meth : Method} {c : Code} (l : Launch) (D : va_G) (cy : Nat → ClassId) {b L : Nat} {xs : Nat → Int32} (C : xC2 p s m #[Value.ref b] meth c D (fun q => s.heap.size ≤ q) s.heap 4 code RL (xTY cy)) (hr : meth.sig.returnType = ret) (hX : va_X b L xs s s.heap) (hbl : b < s.heap.size) (hbA : ¬ (fun q : Nat => s.heap.size ≤ q) b) (hL6 : L = 6) (ux um : Nat → Nat) (cs : Nat × Nat) (hcs : cs = (162, 8366)) : xW p l e room_1 s m #[Value.ref b] below meth c D (fun q => s.heap.size ≤ q) s.heap 4 cs.1 cs.2 (lw_Z below #[Value.ref b] s) (XW cy ux V0x J0 R0x ++ MW cy um V0m J0 R0m) 477 [(3, vI 0), (2, .ref (um 0)), (1, .ref (ux 0)), (0, .ref b)] [] := by
  subst hcs
  refine x_aload_n C.1 dL_law_477 2 rfl ?_
  refine x_aload_n C.1 dL_law_478 3 rfl ?_
  refine x_iload_n C.1 dL_law_479 0 rfl ?_
  refine x_iconst C.1 (n := 1) dL_law_480 ?_
  refine x_iadd C.1 (v := 1) (by decide) dL_law_481 ?_
  refine x_sld C (b := b) (i := 1) hX hbl hbA (by omega) (by omega) dL_law_482 ?_
  rw [show (1 : Int).toNat = 1 from rfl]
  refine x_callVi C (As := [vI ((xs 1).toInt)]) (rest := []) 0 law_x vc_X11 (f_days l D cy ux V0x J0 R0x X_VR X_VJ ((xs 1).toInt) (xi_r _) X_np X_ne X_tl X_dy) (l1 := []) (l2 := MW cy um V0m J0 R0m) rfl (w2 := fun u22 => XW cy ux u22.1 u22.2.1 u22.2.2 ++ MW cy um V0m J0 R0m) (fun _ => rfl) rfl wm_yX11_days wn_X11 wl_L_47 wi_yX11_days we_yX11_days hd_yX11_days rfl ⟨Nat.le_of_ble_eq_true rfl, Nat.le_of_ble_eq_true rfl⟩ (Nat.le_of_ble_eq_true rfl) ⟨Nat.le_of_ble_eq_true rfl, Nat.le_of_ble_eq_true rfl⟩ dL_law_483 (fun r22 u22 hr22 h22 => ?_)
  refine x_aload_n C.1 dL_law_486 1 rfl ?_
  refine x_aload_n C.1 dL_law_487 3 rfl ?_
  refine x_iload_n C.1 dL_law_488 0 rfl ?_
  refine x_iconst C.1 (n := 1) dL_law_489 ?_
  refine x_iadd C.1 (v := 1) (by decide) dL_law_490 ?_
  refine x_sld C (b := b) (i := 1) hX hbl hbA (by omega) (by omega) dL_law_491 ?_
  rw [show (1 : Int).toNat = 1 from rfl]
  refine x_callVi C (As := [vI ((xs 1).toInt)]) (rest := [vI r22]) 129 law_m vc_X12 (g_days l D cy um V0m J0 R0m M_VR X_VJ ((xs 1).toInt) (xi_r _) M_76 M_78 M_tp M_79) (l1 := XW cy ux u22.1 u22.2.1 u22.2.2) (l2 := []) (List.append_nil _).symm (w2 := fun u23 : xS => XW cy ux u22.1 u22.2.1 u22.2.2 ++ MW cy um u23.1 u23.2.1 u23.2.2) (fun _ => List.append_nil _) rfl wm_yX12_days wn_X12 wl_L_50 wi_yX12_days we_yX12_days hd_yX12_days rfl ⟨Nat.le_of_ble_eq_true rfl, Nat.le_of_ble_eq_true rfl⟩ (Nat.le_of_ble_eq_true rfl) ⟨Nat.le_of_ble_eq_true rfl, Nat.le_of_ble_eq_true rfl⟩ dL_law_492 (fun r23 u23 hr23 h23 => ?_)
  refine x_icmp_eq_t C.1 (tgt := 1504) dL_law_495 (by decide) hr22 hr23 (by omega) ?_
  refine x_iinc C.1 (v := 6) (lv' := [(3, vI 6), (2, .ref (um 0)), (1, .ref (ux 0)), (0, .ref b)]) (by decide) dL_law_1504 0 rfl (by decide) rfl ?_
  refine x_goto C.1 (tgt := 18) dL_law_1507 (by decide) ?_
  refine x_iload_n C.1 dL_law_18 0 rfl ?_
  refine x_aload_n C.1 dL_law_19 3 rfl ?_
  refine x_slen C (b := b) hX hbl hbA dL_law_20 ?_
  refine x_bipush C.1 (n := 6) dL_law_21 ?_
  refine x_isub C.1 rfl dL_law_23 ?_
  refine x_icmp_gt_t C.1 (tgt := 1510) dL_law_24 (by decide) (by decide) (by omega) (by omega) ?_
  refine x_iconst C.1 (n := 1) dL_law_1510 ?_
  exact x_lend C hr dL_law_1511 (Nat.le_of_ble_eq_true rfl) (Nat.le_of_ble_eq_true rfl)
set_option maxHeartbeats 4000000 in
set_option maxRecDepth 100000 in
theorem law_case_8 {p : Program} {e : Env} {s : State} {m : MethodId} {below : List Frame} {meth : Method} {c : Code} (l : Launch) (D : va_G) (cy : Nat → ClassId) {b L : Nat} {xs : Nat → Int32} (C : xC2 p s m #[Value.ref b] meth c D (fun q => s.heap.size ≤ q) s.heap 4 code RL (xTY cy)) (hr : meth.sig.returnType = ret) (hX : va_X b L xs s s.heap) (hbl : b < s.heap.size) (hbA : ¬ (fun q : Nat => s.heap.size ≤ q) b) (hL6 : L = 6) (ux um : Nat → Nat) (cs : Nat × Nat) (hcs : cs = (162, 8366)) : xW p l e room_1 s m #[Value.ref b] below meth c D (fun q => s.heap.size ≤ q) s.heap 4 cs.1 cs.2 (lw_Z below #[Value.ref b] s) (XW cy ux V0x J0 R0x ++ MW cy um V0m J0 R0m) 500 [(3, vI 0), (2, .ref (um 0)), (1, .ref (ux 0)), (0, .ref b)] [] := by
  subst hcs
  refine x_aload_n C.1 dL_law_500 2 rfl ?_
  refine x_aload_n C.1 dL_law_501 3 rfl ?_
  refine x_iload_n C.1 dL_law_502 0 rfl ?_
  refine x_iconst C.1 (n := 1) dL_law_503 ?_
  refine x_iadd C.1 (v := 1) (by decide) dL_law_504 ?_
  refine x_sld C (b := b) (i := 1) hX hbl hbA (by omega) (by omega) dL_law_505 ?_
  rw [show (1 : Int).toNat = 1 from rfl]
  refine x_aload_n C.1 dL_law_506 3 rfl ?_
  refine x_iload_n C.1 dL_law_507 0 rfl ?_
  refine x_iconst C.1 (n := 2) dL_law_508 ?_
  refine x_iadd C.1 (v := 2) (by decide) dL_law_509 ?_
  refine x_sld C (b := b) (i := 2) hX hbl hbA (by omega) (by omega) dL_law_510 ?_
  rw [show (2 : Int).toNat = 2 from rfl]
  refine x_callVi C (As := [vI ((xs 1).toInt), vI ((xs 2).toInt)]) (rest := []) 0 law_x vc_X11 (f_tried l D cy ux V0x J0 R0x X_VR X_VJ ((xs 1).toInt) ((xs 2).toInt) (xi_r _) (xi_r _) X_np X_ne X_tl X_dy X_bp X_be) (l1 := []) (l2 := MW cy um V0m J0 R0m) rfl (w2 := fun u24 => XW cy ux u24.1 u24.2.1 u24.2.2 ++ MW cy um V0m J0 R0m) (fun _ => rfl) rfl wm_yX11_tried wn_X11 wl_L_51 wi_yX11_tried we_yX11_tried hd_yX11_tried rfl ⟨Nat.le_of_ble_eq_true rfl, Nat.le_of_ble_eq_true rfl⟩ (Nat.le_of_ble_eq_true rfl) ⟨Nat.le_of_ble_eq_true rfl, Nat.le_of_ble_eq_true rfl⟩ dL_law_511 (fun r24 u24 hr24 h24 => ?_)
  refine x_aload_n C.1 dL_law_514 1 rfl ?_
  refine x_aload_n C.1 dL_law_515 3 rfl ?_
  refine x_iload_n C.1 dL_law_516 0 rfl ?_
  refine x_iconst C.1 (n := 1) dL_law_517 ?_
  refine x_iadd C.1 (v := 1) (by decide) dL_law_518 ?_
  refine x_sld C (b := b) (i := 1) hX hbl hbA (by omega) (by omega) dL_law_519 ?_
  rw [show (1 : Int).toNat = 1 from rfl]
  refine x_aload_n C.1 dL_law_520 3 rfl ?_
  refine x_iload_n C.1 dL_law_521 0 rfl ?_
  refine x_iconst C.1 (n := 2) dL_law_522 ?_
  refine x_iadd C.1 (v := 2) (by decide) dL_law_523 ?_
  refine x_sld C (b := b) (i := 2) hX hbl hbA (by omega) (by omega) dL_law_524 ?_
  rw [show (2 : Int).toNat = 2 from rfl]
  refine x_callVi C (As := [vI ((xs 1).toInt), vI ((xs 2).toInt)]) (rest := [vI r24]) 129 law_m vc_X12 (g_tried l D cy um V0m J0 R0m M_VR X_VJ ((xs 1).toInt) ((xs 2).toInt) (xi_r _) (xi_r _) M_76 M_78 M_tp M_77 M_79) (l1 := XW cy ux u24.1 u24.2.1 u24.2.2) (l2 := []) (List.append_nil _).symm (w2 := fun u25 : xS => XW cy ux u24.1 u24.2.1 u24.2.2 ++ MW cy um u25.1 u25.2.1 u25.2.2) (fun _ => List.append_nil _) rfl wm_yX12_tried wn_X12 wl_L_54 wi_yX12_tried we_yX12_tried hd_yX12_tried rfl ⟨Nat.le_of_ble_eq_true rfl, Nat.le_of_ble_eq_true rfl⟩ (Nat.le_of_ble_eq_true rfl) ⟨Nat.le_of_ble_eq_true rfl, Nat.le_of_ble_eq_true rfl⟩ dL_law_525 (fun r25 u25 hr25 h25 => ?_)
  refine x_icmp_eq_t C.1 (tgt := 1504) dL_law_528 (by decide) hr24 hr25 (by omega) ?_
  refine x_iinc C.1 (v := 6) (lv' := [(3, vI 6), (2, .ref (um 0)), (1, .ref (ux 0)), (0, .ref b)]) (by decide) dL_law_1504 0 rfl (by decide) rfl ?_
  refine x_goto C.1 (tgt := 18) dL_law_1507 (by decide) ?_
  refine x_iload_n C.1 dL_law_18 0 rfl ?_
  refine x_aload_n C.1 dL_law_19 3 rfl ?_
  refine x_slen C (b := b) hX hbl hbA dL_law_20 ?_
  refine x_bipush C.1 (n := 6) dL_law_21 ?_
  refine x_isub C.1 rfl dL_law_23 ?_
  refine x_icmp_gt_t C.1 (tgt := 1510) dL_law_24 (by decide) (by decide) (by omega) (by omega) ?_
  refine x_iconst C.1 (n := 1) dL_law_1510 ?_
  exact x_lend C hr dL_law_1511 (Nat.le_of_ble_eq_true rfl) (Nat.le_of_ble_eq_true rfl)
set_option maxHeartbeats 4000000 in
set_option maxRecDepth 100000 in
theorem law_case_9 {p : Program} {e : Env} {s : State} {m : MethodId} {below : List Frame} {meth : Method} {c : Code} (l : Launch) (D : va_G) (cy : Nat → ClassId) {b L : Nat} {xs : Nat → Int32} (C : xC2 p s m #[Value.ref b] meth c D (fun q => s.heap.size ≤ q) s.heap 4 code RL (xTY cy)) (hr : meth.sig.returnType = ret) (hX : va_X b L xs s s.heap) (hbl : b < s.heap.size) (hbA : ¬ (fun q : Nat => s.heap.size ≤ q) b) (hL6 : L = 6) (ux um : Nat → Nat) (cs : Nat × Nat) (hcs : cs = (162, 8366)) : xW p l e room_1 s m #[Value.ref b] below meth c D (fun q => s.heap.size ≤ q) s.heap 4 cs.1 cs.2 (lw_Z below #[Value.ref b] s) (XW cy ux V0x J0 R0x ++ MW cy um V0m J0 R0m) 533 [(3, vI 0), (2, .ref (um 0)), (1, .ref (ux 0)), (0, .ref b)] [] := by
  subst hcs
  refine x_aload_n C.1 dL_law_533 2 rfl ?_
  refine x_aload_n C.1 dL_law_534 3 rfl ?_
  refine x_iload_n C.1 dL_law_535 0 rfl ?_
  refine x_iconst C.1 (n := 1) dL_law_536 ?_
  refine x_iadd C.1 (v := 1) (by decide) dL_law_537 ?_
  refine x_sld C (b := b) (i := 1) hX hbl hbA (by omega) (by omega) dL_law_538 ?_
  rw [show (1 : Int).toNat = 1 from rfl]
  refine x_aload_n C.1 dL_law_539 3 rfl ?_
  refine x_iload_n C.1 dL_law_540 0 rfl ?_
  refine x_iconst C.1 (n := 2) dL_law_541 ?_
  refine x_iadd C.1 (v := 2) (by decide) dL_law_542 ?_
  refine x_sld C (b := b) (i := 2) hX hbl hbA (by omega) (by omega) dL_law_543 ?_
  rw [show (2 : Int).toNat = 2 from rfl]
  refine x_callVi C (As := [vI ((xs 1).toInt), vI ((xs 2).toInt)]) (rest := []) 0 law_x vc_X11 (f_plantIs l D cy ux V0x J0 R0x X_VR X_VJ ((xs 1).toInt) ((xs 2).toInt) (xi_r _) (xi_r _) X_np X_ne X_tl) (l1 := []) (l2 := MW cy um V0m J0 R0m) rfl (w2 := fun u26 => XW cy ux V0x J0 R0x ++ MW cy um V0m J0 R0m) (fun _ => rfl) rfl wm_yX11_plantIs wn_X11 wl_L_55 wi_yX11_plantIs we_yX11_plantIs hd_yX11_plantIs rfl ⟨Nat.le_of_ble_eq_true rfl, Nat.le_of_ble_eq_true rfl⟩ (Nat.le_of_ble_eq_true rfl) ⟨Nat.le_of_ble_eq_true rfl, Nat.le_of_ble_eq_true rfl⟩ dL_law_544 (fun r26 u26 hr26 h26 => ?_)
  refine x_aload_n C.1 dL_law_547 1 rfl ?_
  refine x_aload_n C.1 dL_law_548 3 rfl ?_
  refine x_iload_n C.1 dL_law_549 0 rfl ?_
  refine x_iconst C.1 (n := 1) dL_law_550 ?_
  refine x_iadd C.1 (v := 1) (by decide) dL_law_551 ?_
  refine x_sld C (b := b) (i := 1) hX hbl hbA (by omega) (by omega) dL_law_552 ?_
  rw [show (1 : Int).toNat = 1 from rfl]
  refine x_aload_n C.1 dL_law_553 3 rfl ?_
  refine x_iload_n C.1 dL_law_554 0 rfl ?_
  refine x_iconst C.1 (n := 2) dL_law_555 ?_
  refine x_iadd C.1 (v := 2) (by decide) dL_law_556 ?_
  refine x_sld C (b := b) (i := 2) hX hbl hbA (by omega) (by omega) dL_law_557 ?_
  rw [show (2 : Int).toNat = 2 from rfl]
  refine x_callVi C (As := [vI ((xs 1).toInt), vI ((xs 2).toInt)]) (rest := [vI r26]) 129 law_m vc_X12 (g_plantIs l D cy um V0m J0 R0m M_VR X_VJ ((xs 1).toInt) ((xs 2).toInt) (xi_r _) (xi_r _) M_76 M_78 M_tp) (l1 := XW cy ux V0x J0 R0x) (l2 := []) (List.append_nil _).symm (w2 := fun u27 : Unit => XW cy ux V0x J0 R0x ++ MW cy um V0m J0 R0m) (fun _ => List.append_nil _) rfl wm_yX12_plantIs wn_X12 wl_L_58 wi_yX12_plantIs we_yX12_plantIs hd_yX12_plantIs rfl ⟨Nat.le_of_ble_eq_true rfl, Nat.le_of_ble_eq_true rfl⟩ (Nat.le_of_ble_eq_true rfl) ⟨Nat.le_of_ble_eq_true rfl, Nat.le_of_ble_eq_true rfl⟩ dL_law_558 (fun r27 u27 hr27 h27 => ?_)
  refine x_icmp_eq_t C.1 (tgt := 1504) dL_law_561 (by decide) hr26 hr27 (by omega) ?_
  refine x_iinc C.1 (v := 6) (lv' := [(3, vI 6), (2, .ref (um 0)), (1, .ref (ux 0)), (0, .ref b)]) (by decide) dL_law_1504 0 rfl (by decide) rfl ?_
  refine x_goto C.1 (tgt := 18) dL_law_1507 (by decide) ?_
  refine x_iload_n C.1 dL_law_18 0 rfl ?_
  refine x_aload_n C.1 dL_law_19 3 rfl ?_
  refine x_slen C (b := b) hX hbl hbA dL_law_20 ?_
  refine x_bipush C.1 (n := 6) dL_law_21 ?_
  refine x_isub C.1 rfl dL_law_23 ?_
  refine x_icmp_gt_t C.1 (tgt := 1510) dL_law_24 (by decide) (by decide) (by omega) (by omega) ?_
  refine x_iconst C.1 (n := 1) dL_law_1510 ?_
  exact x_lend C hr dL_law_1511 (Nat.le_of_ble_eq_true rfl) (Nat.le_of_ble_eq_true rfl)
set_option maxHeartbeats 4000000 in
set_option maxRecDepth 100000 in
theorem law_case_10 {p : Program} {e : Env} {s : State} {m : MethodId} {below : List Frame} {meth : Method} {c : Code} (l : Launch) (D : va_G) (cy : Nat → ClassId) {b L : Nat} {xs : Nat → Int32} (C : xC2 p s m #[Value.ref b] meth c D (fun q => s.heap.size ≤ q) s.heap 4 code RL (xTY cy)) (hr : meth.sig.returnType = ret) (hX : va_X b L xs s s.heap) (hbl : b < s.heap.size) (hbA : ¬ (fun q : Nat => s.heap.size ≤ q) b) (hL6 : L = 6) (ux um : Nat → Nat) (cs : Nat × Nat) (hcs : cs = (162, 8366)) : xW p l e room_1 s m #[Value.ref b] below meth c D (fun q => s.heap.size ≤ q) s.heap 4 cs.1 cs.2 (lw_Z below #[Value.ref b] s) (XW cy ux V0x J0 R0x ++ MW cy um V0m J0 R0m) 566 [(3, vI 0), (2, .ref (um 0)), (1, .ref (ux 0)), (0, .ref b)] [] := by
  subst hcs
  refine x_aload_n C.1 dL_law_566 2 rfl ?_
  refine x_aload_n C.1 dL_law_567 3 rfl ?_
  refine x_iload_n C.1 dL_law_568 0 rfl ?_
  refine x_iconst C.1 (n := 1) dL_law_569 ?_
  refine x_iadd C.1 (v := 1) (by decide) dL_law_570 ?_
  refine x_sld C (b := b) (i := 1) hX hbl hbA (by omega) (by omega) dL_law_571 ?_
  rw [show (1 : Int).toNat = 1 from rfl]
  refine x_aload_n C.1 dL_law_572 3 rfl ?_
  refine x_iload_n C.1 dL_law_573 0 rfl ?_
  refine x_iconst C.1 (n := 2) dL_law_574 ?_
  refine x_iadd C.1 (v := 2) (by decide) dL_law_575 ?_
  refine x_sld C (b := b) (i := 2) hX hbl hbA (by omega) (by omega) dL_law_576 ?_
  rw [show (2 : Int).toNat = 2 from rfl]
  refine x_callVi C (As := [vI ((xs 1).toInt), vI ((xs 2).toInt)]) (rest := []) 0 law_x vc_X11 (f_gives l D cy ux V0x J0 R0x X_VR X_VJ ((xs 1).toInt) ((xs 2).toInt) (xi_r _) (xi_r _) X_np X_ne X_tl) (l1 := []) (l2 := MW cy um V0m J0 R0m) rfl (w2 := fun u28 => XW cy ux V0x J0 R0x ++ MW cy um V0m J0 R0m) (fun _ => rfl) rfl wm_yX11_gives wn_X11 wl_L_59 wi_yX11_gives we_yX11_gives hd_yX11_gives rfl ⟨Nat.le_of_ble_eq_true rfl, Nat.le_of_ble_eq_true rfl⟩ (Nat.le_of_ble_eq_true rfl) ⟨Nat.le_of_ble_eq_true rfl, Nat.le_of_ble_eq_true rfl⟩ dL_law_577 (fun r28 u28 hr28 h28 => ?_)
  refine x_aload_n C.1 dL_law_580 1 rfl ?_
  refine x_aload_n C.1 dL_law_581 3 rfl ?_
  refine x_iload_n C.1 dL_law_582 0 rfl ?_
  refine x_iconst C.1 (n := 1) dL_law_583 ?_
  refine x_iadd C.1 (v := 1) (by decide) dL_law_584 ?_
  refine x_sld C (b := b) (i := 1) hX hbl hbA (by omega) (by omega) dL_law_585 ?_
  rw [show (1 : Int).toNat = 1 from rfl]
  refine x_aload_n C.1 dL_law_586 3 rfl ?_
  refine x_iload_n C.1 dL_law_587 0 rfl ?_
  refine x_iconst C.1 (n := 2) dL_law_588 ?_
  refine x_iadd C.1 (v := 2) (by decide) dL_law_589 ?_
  refine x_sld C (b := b) (i := 2) hX hbl hbA (by omega) (by omega) dL_law_590 ?_
  rw [show (2 : Int).toNat = 2 from rfl]
  refine x_callVi C (As := [vI ((xs 1).toInt), vI ((xs 2).toInt)]) (rest := [vI r28]) 129 law_m vc_X12 (g_gives l D cy um V0m J0 R0m M_VR X_VJ ((xs 1).toInt) ((xs 2).toInt) (xi_r _) (xi_r _) M_76 M_78 M_tp) (l1 := XW cy ux V0x J0 R0x) (l2 := []) (List.append_nil _).symm (w2 := fun u29 : Unit => XW cy ux V0x J0 R0x ++ MW cy um V0m J0 R0m) (fun _ => List.append_nil _) rfl wm_yX12_gives wn_X12 wl_L_62 wi_yX12_gives we_yX12_gives hd_yX12_gives rfl ⟨Nat.le_of_ble_eq_true rfl, Nat.le_of_ble_eq_true rfl⟩ (Nat.le_of_ble_eq_true rfl) ⟨Nat.le_of_ble_eq_true rfl, Nat.le_of_ble_eq_true rfl⟩ dL_law_591 (fun r29 u29 hr29 h29 => ?_)
  refine x_icmp_eq_t C.1 (tgt := 1504) dL_law_594 (by decide) hr28 hr29 (by omega) ?_
  refine x_iinc C.1 (v := 6) (lv' := [(3, vI 6), (2, .ref (um 0)), (1, .ref (ux 0)), (0, .ref b)]) (by decide) dL_law_1504 0 rfl (by decide) rfl ?_
  refine x_goto C.1 (tgt := 18) dL_law_1507 (by decide) ?_
  refine x_iload_n C.1 dL_law_18 0 rfl ?_
  refine x_aload_n C.1 dL_law_19 3 rfl ?_
  refine x_slen C (b := b) hX hbl hbA dL_law_20 ?_
  refine x_bipush C.1 (n := 6) dL_law_21 ?_
  refine x_isub C.1 rfl dL_law_23 ?_
  refine x_icmp_gt_t C.1 (tgt := 1510) dL_law_24 (by decide) (by decide) (by omega) (by omega) ?_
  refine x_iconst C.1 (n := 1) dL_law_1510 ?_
  exact x_lend C hr dL_law_1511 (Nat.le_of_ble_eq_true rfl) (Nat.le_of_ble_eq_true rfl)
set_option maxHeartbeats 4000000 in
set_option maxRecDepth 100000 in
theorem law_case_11 {p : Program} {e : Env} {s : State} {m : MethodId} {below : List Frame} {meth : Method} {c : Code} (l : Launch) (D : va_G) (cy : Nat → ClassId) {b L : Nat} {xs : Nat → Int32} (C : xC2 p s m #[Value.ref b] meth c D (fun q => s.heap.size ≤ q) s.heap 4 code RL (xTY cy)) (hr : meth.sig.returnType = ret) (hX : va_X b L xs s s.heap) (hbl : b < s.heap.size) (hbA : ¬ (fun q : Nat => s.heap.size ≤ q) b) (hL6 : L = 6) (ux um : Nat → Nat) (cs : Nat × Nat) (hcs : cs = (162, 8366)) : xW p l e room_1 s m #[Value.ref b] below meth c D (fun q => s.heap.size ≤ q) s.heap 4 cs.1 cs.2 (lw_Z below #[Value.ref b] s) (XW cy ux V0x J0 R0x ++ MW cy um V0m J0 R0m) 599 [(3, vI 0), (2, .ref (um 0)), (1, .ref (ux 0)), (0, .ref b)] [] := by
  subst hcs
  refine x_aload_n C.1 dL_law_599 2 rfl ?_
  refine x_aload_n C.1 dL_law_600 3 rfl ?_
  refine x_iload_n C.1 dL_law_601 0 rfl ?_
  refine x_iconst C.1 (n := 1) dL_law_602 ?_
  refine x_iadd C.1 (v := 1) (by decide) dL_law_603 ?_
  refine x_sld C (b := b) (i := 1) hX hbl hbA (by omega) (by omega) dL_law_604 ?_
  rw [show (1 : Int).toNat = 1 from rfl]
  refine x_aload_n C.1 dL_law_605 3 rfl ?_
  refine x_iload_n C.1 dL_law_606 0 rfl ?_
  refine x_iconst C.1 (n := 2) dL_law_607 ?_
  refine x_iadd C.1 (v := 2) (by decide) dL_law_608 ?_
  refine x_sld C (b := b) (i := 2) hX hbl hbA (by omega) (by omega) dL_law_609 ?_
  rw [show (2 : Int).toNat = 2 from rfl]
  refine x_aload_n C.1 dL_law_610 3 rfl ?_
  refine x_iload_n C.1 dL_law_611 0 rfl ?_
  refine x_iconst C.1 (n := 3) dL_law_612 ?_
  refine x_iadd C.1 (v := 3) (by decide) dL_law_613 ?_
  refine x_sld C (b := b) (i := 3) hX hbl hbA (by omega) (by omega) dL_law_614 ?_
  rw [show (3 : Int).toNat = 3 from rfl]
  refine x_aload_n C.1 dL_law_615 3 rfl ?_
  refine x_iload_n C.1 dL_law_616 0 rfl ?_
  refine x_iconst C.1 (n := 4) dL_law_617 ?_
  refine x_iadd C.1 (v := 4) (by decide) dL_law_618 ?_
  refine x_sld C (b := b) (i := 4) hX hbl hbA (by omega) (by omega) dL_law_619 ?_
  rw [show (4 : Int).toNat = 4 from rfl]
  refine x_callVl C (As := [vI ((xs 1).toInt), vI ((xs 2).toInt), vI ((xs 3).toInt), vI ((xs 4).toInt)]) (rest := []) 0 law_x vc_X11 (f_exactly l D cy ux V0x J0 R0x X_VR X_VJ ((xs 1).toInt) ((xs 2).toInt) ((xs 3).toInt) ((xs 4).toInt) (xi_r _) (xi_r _) (xi_r _) (xi_r _) X_np X_ne X_tl) (l1 := []) (l2 := MW cy um V0m J0 R0m) rfl (w2 := fun u30 => XW cy ux V0x J0 R0x ++ MW cy um V0m J0 R0m) (fun _ => rfl) rfl wm_yX11_exactly wn_X11 wl_L_63 wi_yX11_exactly we_yX11_exactly hd_yX11_exactly rfl ⟨Nat.le_of_ble_eq_true rfl, Nat.le_of_ble_eq_true rfl⟩ (Nat.le_of_ble_eq_true rfl) ⟨Nat.le_of_ble_eq_true rfl, Nat.le_of_ble_eq_true rfl⟩ dL_law_620 (fun r30 u30 hr30 h30 => ?_)
  refine x_aload_n C.1 dL_law_623 1 rfl ?_
  refine x_aload_n C.1 dL_law_624 3 rfl ?_
  refine x_iload_n C.1 dL_law_625 0 rfl ?_
  refine x_iconst C.1 (n := 1) dL_law_626 ?_
  refine x_iadd C.1 (v := 1) (by decide) dL_law_627 ?_
  refine x_sld C (b := b) (i := 1) hX hbl hbA (by omega) (by omega) dL_law_628 ?_
  rw [show (1 : Int).toNat = 1 from rfl]
  refine x_aload_n C.1 dL_law_629 3 rfl ?_
  refine x_iload_n C.1 dL_law_630 0 rfl ?_
  refine x_iconst C.1 (n := 2) dL_law_631 ?_
  refine x_iadd C.1 (v := 2) (by decide) dL_law_632 ?_
  refine x_sld C (b := b) (i := 2) hX hbl hbA (by omega) (by omega) dL_law_633 ?_
  rw [show (2 : Int).toNat = 2 from rfl]
  refine x_aload_n C.1 dL_law_634 3 rfl ?_
  refine x_iload_n C.1 dL_law_635 0 rfl ?_
  refine x_iconst C.1 (n := 3) dL_law_636 ?_
  refine x_iadd C.1 (v := 3) (by decide) dL_law_637 ?_
  refine x_sld C (b := b) (i := 3) hX hbl hbA (by omega) (by omega) dL_law_638 ?_
  rw [show (3 : Int).toNat = 3 from rfl]
  refine x_aload_n C.1 dL_law_639 3 rfl ?_
  refine x_iload_n C.1 dL_law_640 0 rfl ?_
  refine x_iconst C.1 (n := 4) dL_law_641 ?_
  refine x_iadd C.1 (v := 4) (by decide) dL_law_642 ?_
  refine x_sld C (b := b) (i := 4) hX hbl hbA (by omega) (by omega) dL_law_643 ?_
  rw [show (4 : Int).toNat = 4 from rfl]
  refine x_callVl C (As := [vI ((xs 1).toInt), vI ((xs 2).toInt), vI ((xs 3).toInt), vI ((xs 4).toInt)]) (rest := [vJ r30]) 129 law_m vc_X12 (g_exactly l D cy um V0m J0 R0m M_VR X_VJ ((xs 1).toInt) ((xs 2).toInt) ((xs 3).toInt) ((xs 4).toInt) (xi_r _) (xi_r _) (xi_r _) (xi_r _) M_76 M_78 M_tp) (l1 := XW cy ux V0x J0 R0x) (l2 := []) (List.append_nil _).symm (w2 := fun u31 : Unit => XW cy ux V0x J0 R0x ++ MW cy um V0m J0 R0m) (fun _ => List.append_nil _) rfl wm_yX12_exactly wn_X12 wl_L_67 wi_yX12_exactly we_yX12_exactly hd_yX12_exactly rfl ⟨Nat.le_of_ble_eq_true rfl, Nat.le_of_ble_eq_true rfl⟩ (Nat.le_of_ble_eq_true rfl) ⟨Nat.le_of_ble_eq_true rfl, Nat.le_of_ble_eq_true rfl⟩ dL_law_644 (fun r31 u31 hr31 h31 => ?_)
  refine x_lcmp C.1 (v := 0) ((lcI_eq _ _).mpr (by omega)) dL_law_647 hr30 hr31 ?_
  refine x_if_eq_t C.1 (tgt := 1504) dL_law_648 (by decide) (by decide) rfl ?_
  refine x_iinc C.1 (v := 6) (lv' := [(3, vI 6), (2, .ref (um 0)), (1, .ref (ux 0)), (0, .ref b)]) (by decide) dL_law_1504 0 rfl (by decide) rfl ?_
  refine x_goto C.1 (tgt := 18) dL_law_1507 (by decide) ?_
  refine x_iload_n C.1 dL_law_18 0 rfl ?_
  refine x_aload_n C.1 dL_law_19 3 rfl ?_
  refine x_slen C (b := b) hX hbl hbA dL_law_20 ?_
  refine x_bipush C.1 (n := 6) dL_law_21 ?_
  refine x_isub C.1 rfl dL_law_23 ?_
  refine x_icmp_gt_t C.1 (tgt := 1510) dL_law_24 (by decide) (by decide) (by omega) (by omega) ?_
  refine x_iconst C.1 (n := 1) dL_law_1510 ?_
  exact x_lend C hr dL_law_1511 (Nat.le_of_ble_eq_true rfl) (Nat.le_of_ble_eq_true rfl)
set_option maxHeartbeats 4000000 in
set_option maxRecDepth 100000 in
theorem law_case_12 {p : Program} {e : Env} {s : State} {m : MethodId} {below : List Frame} {meth : Method} {c : Code} (l : Launch) (D : va_G) (cy : Nat → ClassId) {b L : Nat} {xs : Nat → Int32} (C : xC2 p s m #[Value.ref b] meth c D (fun q => s.heap.size ≤ q) s.heap 4 code RL (xTY cy)) (hr : meth.sig.returnType = ret) (hX : va_X b L xs s s.heap) (hbl : b < s.heap.size) (hbA : ¬ (fun q : Nat => s.heap.size ≤ q) b) (hL6 : L = 6) (ux um : Nat → Nat) (cs : Nat × Nat) (hcs : cs = (162, 8366)) : xW p l e room_1 s m #[Value.ref b] below meth c D (fun q => s.heap.size ≤ q) s.heap 4 cs.1 cs.2 (lw_Z below #[Value.ref b] s) (XW cy ux V0x J0 R0x ++ MW cy um V0m J0 R0m) 653 [(3, vI 0), (2, .ref (um 0)), (1, .ref (ux 0)), (0, .ref b)] [] := by
  subst hcs
  refine x_aload_n C.1 dL_law_653 2 rfl ?_
  refine x_aload_n C.1 dL_law_654 3 rfl ?_
  refine x_iload_n C.1 dL_law_655 0 rfl ?_
  refine x_iconst C.1 (n := 1) dL_law_656 ?_
  refine x_iadd C.1 (v := 1) (by decide) dL_law_657 ?_
  refine x_sld C (b := b) (i := 1) hX hbl hbA (by omega) (by omega) dL_law_658 ?_
  rw [show (1 : Int).toNat = 1 from rfl]
  refine x_aload_n C.1 dL_law_659 3 rfl ?_
  refine x_iload_n C.1 dL_law_660 0 rfl ?_
  refine x_iconst C.1 (n := 2) dL_law_661 ?_
  refine x_iadd C.1 (v := 2) (by decide) dL_law_662 ?_
  refine x_sld C (b := b) (i := 2) hX hbl hbA (by omega) (by omega) dL_law_663 ?_
  rw [show (2 : Int).toNat = 2 from rfl]
  refine x_aload_n C.1 dL_law_664 3 rfl ?_
  refine x_iload_n C.1 dL_law_665 0 rfl ?_
  refine x_iconst C.1 (n := 3) dL_law_666 ?_
  refine x_iadd C.1 (v := 3) (by decide) dL_law_667 ?_
  refine x_sld C (b := b) (i := 3) hX hbl hbA (by omega) (by omega) dL_law_668 ?_
  rw [show (3 : Int).toNat = 3 from rfl]
  refine x_aload_n C.1 dL_law_669 3 rfl ?_
  refine x_iload_n C.1 dL_law_670 0 rfl ?_
  refine x_iconst C.1 (n := 4) dL_law_671 ?_
  refine x_iadd C.1 (v := 4) (by decide) dL_law_672 ?_
  refine x_sld C (b := b) (i := 4) hX hbl hbA (by omega) (by omega) dL_law_673 ?_
  rw [show (4 : Int).toNat = 4 from rfl]
  refine x_callVl C (As := [vI ((xs 1).toInt), vI ((xs 2).toInt), vI ((xs 3).toInt), vI ((xs 4).toInt)]) (rest := []) 0 law_x vc_X11 (f_chance l D cy ux V0x J0 R0x X_VR X_VJ ((xs 1).toInt) ((xs 2).toInt) ((xs 3).toInt) ((xs 4).toInt) (xi_r _) (xi_r _) (xi_r _) (xi_r _) X_np X_ne X_tl) (l1 := []) (l2 := MW cy um V0m J0 R0m) rfl (w2 := fun u32 => XW cy ux V0x J0 R0x ++ MW cy um V0m J0 R0m) (fun _ => rfl) rfl wm_yX11_chance wn_X11 wl_L_68 wi_yX11_chance we_yX11_chance hd_yX11_chance rfl ⟨Nat.le_of_ble_eq_true rfl, Nat.le_of_ble_eq_true rfl⟩ (Nat.le_of_ble_eq_true rfl) ⟨Nat.le_of_ble_eq_true rfl, Nat.le_of_ble_eq_true rfl⟩ dL_law_674 (fun r32 u32 hr32 h32 => ?_)
  refine x_aload_n C.1 dL_law_677 1 rfl ?_
  refine x_aload_n C.1 dL_law_678 3 rfl ?_
  refine x_iload_n C.1 dL_law_679 0 rfl ?_
  refine x_iconst C.1 (n := 1) dL_law_680 ?_
  refine x_iadd C.1 (v := 1) (by decide) dL_law_681 ?_
  refine x_sld C (b := b) (i := 1) hX hbl hbA (by omega) (by omega) dL_law_682 ?_
  rw [show (1 : Int).toNat = 1 from rfl]
  refine x_aload_n C.1 dL_law_683 3 rfl ?_
  refine x_iload_n C.1 dL_law_684 0 rfl ?_
  refine x_iconst C.1 (n := 2) dL_law_685 ?_
  refine x_iadd C.1 (v := 2) (by decide) dL_law_686 ?_
  refine x_sld C (b := b) (i := 2) hX hbl hbA (by omega) (by omega) dL_law_687 ?_
  rw [show (2 : Int).toNat = 2 from rfl]
  refine x_aload_n C.1 dL_law_688 3 rfl ?_
  refine x_iload_n C.1 dL_law_689 0 rfl ?_
  refine x_iconst C.1 (n := 3) dL_law_690 ?_
  refine x_iadd C.1 (v := 3) (by decide) dL_law_691 ?_
  refine x_sld C (b := b) (i := 3) hX hbl hbA (by omega) (by omega) dL_law_692 ?_
  rw [show (3 : Int).toNat = 3 from rfl]
  refine x_aload_n C.1 dL_law_693 3 rfl ?_
  refine x_iload_n C.1 dL_law_694 0 rfl ?_
  refine x_iconst C.1 (n := 4) dL_law_695 ?_
  refine x_iadd C.1 (v := 4) (by decide) dL_law_696 ?_
  refine x_sld C (b := b) (i := 4) hX hbl hbA (by omega) (by omega) dL_law_697 ?_
  rw [show (4 : Int).toNat = 4 from rfl]
  refine x_callVl C (As := [vI ((xs 1).toInt), vI ((xs 2).toInt), vI ((xs 3).toInt), vI ((xs 4).toInt)]) (rest := [vJ r32]) 129 law_m vc_X12 (g_chance l D cy um V0m J0 R0m M_VR X_VJ ((xs 1).toInt) ((xs 2).toInt) ((xs 3).toInt) ((xs 4).toInt) (xi_r _) (xi_r _) (xi_r _) (xi_r _) M_76 M_78 M_tp) (l1 := XW cy ux V0x J0 R0x) (l2 := []) (List.append_nil _).symm (w2 := fun u33 : Unit => XW cy ux V0x J0 R0x ++ MW cy um V0m J0 R0m) (fun _ => List.append_nil _) rfl wm_yX12_chance wn_X12 wl_L_71 wi_yX12_chance we_yX12_chance hd_yX12_chance rfl ⟨Nat.le_of_ble_eq_true rfl, Nat.le_of_ble_eq_true rfl⟩ (Nat.le_of_ble_eq_true rfl) ⟨Nat.le_of_ble_eq_true rfl, Nat.le_of_ble_eq_true rfl⟩ dL_law_698 (fun r33 u33 hr33 h33 => ?_)
  refine x_lcmp C.1 (v := 0) ((lcI_eq _ _).mpr (by omega)) dL_law_701 hr32 hr33 ?_
  refine x_if_eq_t C.1 (tgt := 1504) dL_law_702 (by decide) (by decide) rfl ?_
  refine x_iinc C.1 (v := 6) (lv' := [(3, vI 6), (2, .ref (um 0)), (1, .ref (ux 0)), (0, .ref b)]) (by decide) dL_law_1504 0 rfl (by decide) rfl ?_
  refine x_goto C.1 (tgt := 18) dL_law_1507 (by decide) ?_
  refine x_iload_n C.1 dL_law_18 0 rfl ?_
  refine x_aload_n C.1 dL_law_19 3 rfl ?_
  refine x_slen C (b := b) hX hbl hbA dL_law_20 ?_
  refine x_bipush C.1 (n := 6) dL_law_21 ?_
  refine x_isub C.1 rfl dL_law_23 ?_
  refine x_icmp_gt_t C.1 (tgt := 1510) dL_law_24 (by decide) (by decide) (by omega) (by omega) ?_
  refine x_iconst C.1 (n := 1) dL_law_1510 ?_
  exact x_lend C hr dL_law_1511 (Nat.le_of_ble_eq_true rfl) (Nat.le_of_ble_eq_true rfl)
set_option maxHeartbeats 4000000 in
set_option maxRecDepth 100000 in
theorem law_case_13 {p : Program} {e : Env} {s : State} {m : MethodId} {below : List Frame} {meth : Method} {c : Code} (l : Launch) (D : va_G) (cy : Nat → ClassId) {b L : Nat} {xs : Nat → Int32} (C : xC2 p s m #[Value.ref b] meth c D (fun q => s.heap.size ≤ q) s.heap 4 code RL (xTY cy)) (hr : meth.sig.returnType = ret) (hX : va_X b L xs s s.heap) (hbl : b < s.heap.size) (hbA : ¬ (fun q : Nat => s.heap.size ≤ q) b) (hL6 : L = 6) (ux um : Nat → Nat) (cs : Nat × Nat) (hcs : cs = (162, 8366)) : xW p l e room_1 s m #[Value.ref b] below meth c D (fun q => s.heap.size ≤ q) s.heap 4 cs.1 cs.2 (lw_Z below #[Value.ref b] s) (XW cy ux V0x J0 R0x ++ MW cy um V0m J0 R0m) 707 [(3, vI 0), (2, .ref (um 0)), (1, .ref (ux 0)), (0, .ref b)] [] := by
  subst hcs
  refine x_aload_n C.1 dL_law_707 2 rfl ?_
  refine x_aload_n C.1 dL_law_708 3 rfl ?_
  refine x_iload_n C.1 dL_law_709 0 rfl ?_
  refine x_iconst C.1 (n := 1) dL_law_710 ?_
  refine x_iadd C.1 (v := 1) (by decide) dL_law_711 ?_
  refine x_sld C (b := b) (i := 1) hX hbl hbA (by omega) (by omega) dL_law_712 ?_
  rw [show (1 : Int).toNat = 1 from rfl]
  refine x_aload_n C.1 dL_law_713 3 rfl ?_
  refine x_iload_n C.1 dL_law_714 0 rfl ?_
  refine x_iconst C.1 (n := 2) dL_law_715 ?_
  refine x_iadd C.1 (v := 2) (by decide) dL_law_716 ?_
  refine x_sld C (b := b) (i := 2) hX hbl hbA (by omega) (by omega) dL_law_717 ?_
  rw [show (2 : Int).toNat = 2 from rfl]
  refine x_aload_n C.1 dL_law_718 3 rfl ?_
  refine x_iload_n C.1 dL_law_719 0 rfl ?_
  refine x_iconst C.1 (n := 3) dL_law_720 ?_
  refine x_iadd C.1 (v := 3) (by decide) dL_law_721 ?_
  refine x_sld C (b := b) (i := 3) hX hbl hbA (by omega) (by omega) dL_law_722 ?_
  rw [show (3 : Int).toNat = 3 from rfl]
  refine x_aload_n C.1 dL_law_723 3 rfl ?_
  refine x_iload_n C.1 dL_law_724 0 rfl ?_
  refine x_iconst C.1 (n := 4) dL_law_725 ?_
  refine x_iadd C.1 (v := 4) (by decide) dL_law_726 ?_
  refine x_sld C (b := b) (i := 4) hX hbl hbA (by omega) (by omega) dL_law_727 ?_
  rw [show (4 : Int).toNat = 4 from rfl]
  refine x_callVl C (As := [vI ((xs 1).toInt), vI ((xs 2).toInt), vI ((xs 3).toInt), vI ((xs 4).toInt)]) (rest := []) 0 law_x vc_X11 (f_toAsk l D cy ux V0x J0 R0x X_VR X_VJ ((xs 1).toInt) ((xs 2).toInt) ((xs 3).toInt) ((xs 4).toInt) (xi_r _) (xi_r _) (xi_r _) (xi_r _) X_np X_ne X_tl) (l1 := []) (l2 := MW cy um V0m J0 R0m) rfl (w2 := fun u34 => XW cy ux V0x J0 R0x ++ MW cy um V0m J0 R0m) (fun _ => rfl) rfl wm_yX11_toAsk wn_X11 wl_L_72 wi_yX11_toAsk we_yX11_toAsk hd_yX11_toAsk rfl ⟨Nat.le_of_ble_eq_true rfl, Nat.le_of_ble_eq_true rfl⟩ (Nat.le_of_ble_eq_true rfl) ⟨Nat.le_of_ble_eq_true rfl, Nat.le_of_ble_eq_true rfl⟩ dL_law_728 (fun r34 u34 hr34 h34 => ?_)
  refine x_aload_n C.1 dL_law_731 1 rfl ?_
  refine x_aload_n C.1 dL_law_732 3 rfl ?_
  refine x_iload_n C.1 dL_law_733 0 rfl ?_
  refine x_iconst C.1 (n := 1) dL_law_734 ?_
  refine x_iadd C.1 (v := 1) (by decide) dL_law_735 ?_
  refine x_sld C (b := b) (i := 1) hX hbl hbA (by omega) (by omega) dL_law_736 ?_
  rw [show (1 : Int).toNat = 1 from rfl]
  refine x_aload_n C.1 dL_law_737 3 rfl ?_
  refine x_iload_n C.1 dL_law_738 0 rfl ?_
  refine x_iconst C.1 (n := 2) dL_law_739 ?_
  refine x_iadd C.1 (v := 2) (by decide) dL_law_740 ?_
  refine x_sld C (b := b) (i := 2) hX hbl hbA (by omega) (by omega) dL_law_741 ?_
  rw [show (2 : Int).toNat = 2 from rfl]
  refine x_aload_n C.1 dL_law_742 3 rfl ?_
  refine x_iload_n C.1 dL_law_743 0 rfl ?_
  refine x_iconst C.1 (n := 3) dL_law_744 ?_
  refine x_iadd C.1 (v := 3) (by decide) dL_law_745 ?_
  refine x_sld C (b := b) (i := 3) hX hbl hbA (by omega) (by omega) dL_law_746 ?_
  rw [show (3 : Int).toNat = 3 from rfl]
  refine x_aload_n C.1 dL_law_747 3 rfl ?_
  refine x_iload_n C.1 dL_law_748 0 rfl ?_
  refine x_iconst C.1 (n := 4) dL_law_749 ?_
  refine x_iadd C.1 (v := 4) (by decide) dL_law_750 ?_
  refine x_sld C (b := b) (i := 4) hX hbl hbA (by omega) (by omega) dL_law_751 ?_
  rw [show (4 : Int).toNat = 4 from rfl]
  refine x_callVl C (As := [vI ((xs 1).toInt), vI ((xs 2).toInt), vI ((xs 3).toInt), vI ((xs 4).toInt)]) (rest := [vJ r34]) 129 law_m vc_X12 (g_toAsk l D cy um V0m J0 R0m M_VR X_VJ ((xs 1).toInt) ((xs 2).toInt) ((xs 3).toInt) ((xs 4).toInt) (xi_r _) (xi_r _) (xi_r _) (xi_r _) M_76 M_78 M_tp) (l1 := XW cy ux V0x J0 R0x) (l2 := []) (List.append_nil _).symm (w2 := fun u35 : Unit => XW cy ux V0x J0 R0x ++ MW cy um V0m J0 R0m) (fun _ => List.append_nil _) rfl wm_yX12_toAsk wn_X12 wl_L_75 wi_yX12_toAsk we_yX12_toAsk hd_yX12_toAsk rfl ⟨Nat.le_of_ble_eq_true rfl, Nat.le_of_ble_eq_true rfl⟩ (Nat.le_of_ble_eq_true rfl) ⟨Nat.le_of_ble_eq_true rfl, Nat.le_of_ble_eq_true rfl⟩ dL_law_752 (fun r35 u35 hr35 h35 => ?_)
  refine x_lcmp C.1 (v := 0) ((lcI_eq _ _).mpr (by omega)) dL_law_755 hr34 hr35 ?_
  refine x_if_eq_t C.1 (tgt := 1504) dL_law_756 (by decide) (by decide) rfl ?_
  refine x_iinc C.1 (v := 6) (lv' := [(3, vI 6), (2, .ref (um 0)), (1, .ref (ux 0)), (0, .ref b)]) (by decide) dL_law_1504 0 rfl (by decide) rfl ?_
  refine x_goto C.1 (tgt := 18) dL_law_1507 (by decide) ?_
  refine x_iload_n C.1 dL_law_18 0 rfl ?_
  refine x_aload_n C.1 dL_law_19 3 rfl ?_
  refine x_slen C (b := b) hX hbl hbA dL_law_20 ?_
  refine x_bipush C.1 (n := 6) dL_law_21 ?_
  refine x_isub C.1 rfl dL_law_23 ?_
  refine x_icmp_gt_t C.1 (tgt := 1510) dL_law_24 (by decide) (by decide) (by omega) (by omega) ?_
  refine x_iconst C.1 (n := 1) dL_law_1510 ?_
  exact x_lend C hr dL_law_1511 (Nat.le_of_ble_eq_true rfl) (Nat.le_of_ble_eq_true rfl)
set_option maxHeartbeats 4000000 in
set_option maxRecDepth 100000 in
theorem law_case_14 {p : Program} {e : Env} {s : State} {m : MethodId} {below : List Frame} {meth : Method} {c : Code} (l : Launch) (D : va_G) (cy : Nat → ClassId) {b L : Nat} {xs : Nat → Int32} (C : xC2 p s m #[Value.ref b] meth c D (fun q => s.heap.size ≤ q) s.heap 4 code RL (xTY cy)) (hr : meth.sig.returnType = ret) (hX : va_X b L xs s s.heap) (hbl : b < s.heap.size) (hbA : ¬ (fun q : Nat => s.heap.size ≤ q) b) (hL6 : L = 6) (ux um : Nat → Nat) (cs : Nat × Nat) (hcs : cs = (162, 8366)) : xW p l e room_1 s m #[Value.ref b] below meth c D (fun q => s.heap.size ≤ q) s.heap 4 cs.1 cs.2 (lw_Z below #[Value.ref b] s) (XW cy ux V0x J0 R0x ++ MW cy um V0m J0 R0m) 761 [(3, vI 0), (2, .ref (um 0)), (1, .ref (ux 0)), (0, .ref b)] [] := by
  subst hcs
  refine x_aload_n C.1 dL_law_761 2 rfl ?_
  refine x_aload_n C.1 dL_law_762 3 rfl ?_
  refine x_iload_n C.1 dL_law_763 0 rfl ?_
  refine x_iconst C.1 (n := 1) dL_law_764 ?_
  refine x_iadd C.1 (v := 1) (by decide) dL_law_765 ?_
  refine x_sld C (b := b) (i := 1) hX hbl hbA (by omega) (by omega) dL_law_766 ?_
  rw [show (1 : Int).toNat = 1 from rfl]
  refine x_aload_n C.1 dL_law_767 3 rfl ?_
  refine x_iload_n C.1 dL_law_768 0 rfl ?_
  refine x_iconst C.1 (n := 2) dL_law_769 ?_
  refine x_iadd C.1 (v := 2) (by decide) dL_law_770 ?_
  refine x_sld C (b := b) (i := 2) hX hbl hbA (by omega) (by omega) dL_law_771 ?_
  rw [show (2 : Int).toNat = 2 from rfl]
  refine x_aload_n C.1 dL_law_772 3 rfl ?_
  refine x_iload_n C.1 dL_law_773 0 rfl ?_
  refine x_iconst C.1 (n := 3) dL_law_774 ?_
  refine x_iadd C.1 (v := 3) (by decide) dL_law_775 ?_
  refine x_sld C (b := b) (i := 3) hX hbl hbA (by omega) (by omega) dL_law_776 ?_
  rw [show (3 : Int).toNat = 3 from rfl]
  refine x_aload_n C.1 dL_law_777 3 rfl ?_
  refine x_iload_n C.1 dL_law_778 0 rfl ?_
  refine x_iconst C.1 (n := 4) dL_law_779 ?_
  refine x_iadd C.1 (v := 4) (by decide) dL_law_780 ?_
  refine x_sld C (b := b) (i := 4) hX hbl hbA (by omega) (by omega) dL_law_781 ?_
  rw [show (4 : Int).toNat = 4 from rfl]
  refine x_callVi C (As := [vI ((xs 1).toInt), vI ((xs 2).toInt), vI ((xs 3).toInt), vI ((xs 4).toInt)]) (rest := []) 0 law_x vc_X11 (f_few l D cy ux V0x J0 R0x X_VR X_VJ ((xs 1).toInt) ((xs 2).toInt) ((xs 3).toInt) ((xs 4).toInt) (xi_r _) (xi_r _) (xi_r _) (xi_r _) X_np X_ne X_tl) (l1 := []) (l2 := MW cy um V0m J0 R0m) rfl (w2 := fun u36 => XW cy ux V0x J0 R0x ++ MW cy um V0m J0 R0m) (fun _ => rfl) rfl wm_yX11_few wn_X11 wl_L_76 wi_yX11_few we_yX11_few hd_yX11_few rfl ⟨Nat.le_of_ble_eq_true rfl, Nat.le_of_ble_eq_true rfl⟩ (Nat.le_of_ble_eq_true rfl) ⟨Nat.le_of_ble_eq_true rfl, Nat.le_of_ble_eq_true rfl⟩ dL_law_782 (fun r36 u36 hr36 h36 => ?_)
  refine x_aload_n C.1 dL_law_785 1 rfl ?_
  refine x_aload_n C.1 dL_law_786 3 rfl ?_
  refine x_iload_n C.1 dL_law_787 0 rfl ?_
  refine x_iconst C.1 (n := 1) dL_law_788 ?_
  refine x_iadd C.1 (v := 1) (by decide) dL_law_789 ?_
  refine x_sld C (b := b) (i := 1) hX hbl hbA (by omega) (by omega) dL_law_790 ?_
  rw [show (1 : Int).toNat = 1 from rfl]
  refine x_aload_n C.1 dL_law_791 3 rfl ?_
  refine x_iload_n C.1 dL_law_792 0 rfl ?_
  refine x_iconst C.1 (n := 2) dL_law_793 ?_
  refine x_iadd C.1 (v := 2) (by decide) dL_law_794 ?_
  refine x_sld C (b := b) (i := 2) hX hbl hbA (by omega) (by omega) dL_law_795 ?_
  rw [show (2 : Int).toNat = 2 from rfl]
  refine x_aload_n C.1 dL_law_796 3 rfl ?_
  refine x_iload_n C.1 dL_law_797 0 rfl ?_
  refine x_iconst C.1 (n := 3) dL_law_798 ?_
  refine x_iadd C.1 (v := 3) (by decide) dL_law_799 ?_
  refine x_sld C (b := b) (i := 3) hX hbl hbA (by omega) (by omega) dL_law_800 ?_
  rw [show (3 : Int).toNat = 3 from rfl]
  refine x_aload_n C.1 dL_law_801 3 rfl ?_
  refine x_iload_n C.1 dL_law_802 0 rfl ?_
  refine x_iconst C.1 (n := 4) dL_law_803 ?_
  refine x_iadd C.1 (v := 4) (by decide) dL_law_804 ?_
  refine x_sld C (b := b) (i := 4) hX hbl hbA (by omega) (by omega) dL_law_805 ?_
  rw [show (4 : Int).toNat = 4 from rfl]
  refine x_callVi C (As := [vI ((xs 1).toInt), vI ((xs 2).toInt), vI ((xs 3).toInt), vI ((xs 4).toInt)]) (rest := [vI r36]) 129 law_m vc_X12 (g_few l D cy um V0m J0 R0m M_VR X_VJ ((xs 1).toInt) ((xs 2).toInt) ((xs 3).toInt) ((xs 4).toInt) (xi_r _) (xi_r _) (xi_r _) (xi_r _) M_76 M_78 M_tp) (l1 := XW cy ux V0x J0 R0x) (l2 := []) (List.append_nil _).symm (w2 := fun u37 : Unit => XW cy ux V0x J0 R0x ++ MW cy um V0m J0 R0m) (fun _ => List.append_nil _) rfl wm_yX12_few wn_X12 wl_L_80 wi_yX12_few we_yX12_few hd_yX12_few rfl ⟨Nat.le_of_ble_eq_true rfl, Nat.le_of_ble_eq_true rfl⟩ (Nat.le_of_ble_eq_true rfl) ⟨Nat.le_of_ble_eq_true rfl, Nat.le_of_ble_eq_true rfl⟩ dL_law_806 (fun r37 u37 hr37 h37 => ?_)
  refine x_icmp_eq_t C.1 (tgt := 1504) dL_law_809 (by decide) hr36 hr37 (by omega) ?_
  refine x_iinc C.1 (v := 6) (lv' := [(3, vI 6), (2, .ref (um 0)), (1, .ref (ux 0)), (0, .ref b)]) (by decide) dL_law_1504 0 rfl (by decide) rfl ?_
  refine x_goto C.1 (tgt := 18) dL_law_1507 (by decide) ?_
  refine x_iload_n C.1 dL_law_18 0 rfl ?_
  refine x_aload_n C.1 dL_law_19 3 rfl ?_
  refine x_slen C (b := b) hX hbl hbA dL_law_20 ?_
  refine x_bipush C.1 (n := 6) dL_law_21 ?_
  refine x_isub C.1 rfl dL_law_23 ?_
  refine x_icmp_gt_t C.1 (tgt := 1510) dL_law_24 (by decide) (by decide) (by omega) (by omega) ?_
  refine x_iconst C.1 (n := 1) dL_law_1510 ?_
  exact x_lend C hr dL_law_1511 (Nat.le_of_ble_eq_true rfl) (Nat.le_of_ble_eq_true rfl)
set_option maxHeartbeats 4000000 in
set_option maxRecDepth 100000 in
theorem law_case_15 {p : Program} {e : Env} {s : State} {m : MethodId} {below : List Frame} {meth : Method} {c : Code} (l : Launch) (D : va_G) (cy : Nat → ClassId) {b L : Nat} {xs : Nat → Int32} (C : xC2 p s m #[Value.ref b] meth c D (fun q => s.heap.size ≤ q) s.heap 4 code RL (xTY cy)) (hr : meth.sig.returnType = ret) (hX : va_X b L xs s s.heap) (hbl : b < s.heap.size) (hbA : ¬ (fun q : Nat => s.heap.size ≤ q) b) (hL6 : L = 6) (ux um : Nat → Nat) (cs : Nat × Nat) (hcs : cs = (162, 8366)) : xW p l e room_1 s m #[Value.ref b] below meth c D (fun q => s.heap.size ≤ q) s.heap 4 cs.1 cs.2 (lw_Z below #[Value.ref b] s) (XW cy ux V0x J0 R0x ++ MW cy um V0m J0 R0m) 814 [(3, vI 0), (2, .ref (um 0)), (1, .ref (ux 0)), (0, .ref b)] [] := by
  subst hcs
  refine x_aload_n C.1 dL_law_814 2 rfl ?_
  refine x_aload_n C.1 dL_law_815 3 rfl ?_
  refine x_iload_n C.1 dL_law_816 0 rfl ?_
  refine x_iconst C.1 (n := 1) dL_law_817 ?_
  refine x_iadd C.1 (v := 1) (by decide) dL_law_818 ?_
  refine x_sld C (b := b) (i := 1) hX hbl hbA (by omega) (by omega) dL_law_819 ?_
  rw [show (1 : Int).toNat = 1 from rfl]
  refine x_aload_n C.1 dL_law_820 3 rfl ?_
  refine x_iload_n C.1 dL_law_821 0 rfl ?_
  refine x_iconst C.1 (n := 2) dL_law_822 ?_
  refine x_iadd C.1 (v := 2) (by decide) dL_law_823 ?_
  refine x_sld C (b := b) (i := 2) hX hbl hbA (by omega) (by omega) dL_law_824 ?_
  rw [show (2 : Int).toNat = 2 from rfl]
  refine x_aload_n C.1 dL_law_825 3 rfl ?_
  refine x_iload_n C.1 dL_law_826 0 rfl ?_
  refine x_iconst C.1 (n := 3) dL_law_827 ?_
  refine x_iadd C.1 (v := 3) (by decide) dL_law_828 ?_
  refine x_sld C (b := b) (i := 3) hX hbl hbA (by omega) (by omega) dL_law_829 ?_
  rw [show (3 : Int).toNat = 3 from rfl]
  refine x_aload_n C.1 dL_law_830 3 rfl ?_
  refine x_iload_n C.1 dL_law_831 0 rfl ?_
  refine x_iconst C.1 (n := 4) dL_law_832 ?_
  refine x_iadd C.1 (v := 4) (by decide) dL_law_833 ?_
  refine x_sld C (b := b) (i := 4) hX hbl hbA (by omega) (by omega) dL_law_834 ?_
  rw [show (4 : Int).toNat = 4 from rfl]
  refine x_callVl C (As := [vI ((xs 1).toInt), vI ((xs 2).toInt), vI ((xs 3).toInt), vI ((xs 4).toInt)]) (rest := []) 0 law_x vc_X11 (f_pot l D cy ux V0x J0 R0x X_VR X_VJ ((xs 1).toInt) ((xs 2).toInt) ((xs 3).toInt) ((xs 4).toInt) (xi_r _) (xi_r _) (xi_r _) (xi_r _) X_np X_ne X_tl) (l1 := []) (l2 := MW cy um V0m J0 R0m) rfl (w2 := fun u38 => XW cy ux V0x J0 R0x ++ MW cy um V0m J0 R0m) (fun _ => rfl) rfl wm_yX11_pot wn_X11 wl_L_81 wi_yX11_pot we_yX11_pot hd_yX11_pot rfl ⟨Nat.le_of_ble_eq_true rfl, Nat.le_of_ble_eq_true rfl⟩ (Nat.le_of_ble_eq_true rfl) ⟨Nat.le_of_ble_eq_true rfl, Nat.le_of_ble_eq_true rfl⟩ dL_law_835 (fun r38 u38 hr38 h38 => ?_)
  refine x_aload_n C.1 dL_law_838 1 rfl ?_
  refine x_aload_n C.1 dL_law_839 3 rfl ?_
  refine x_iload_n C.1 dL_law_840 0 rfl ?_
  refine x_iconst C.1 (n := 1) dL_law_841 ?_
  refine x_iadd C.1 (v := 1) (by decide) dL_law_842 ?_
  refine x_sld C (b := b) (i := 1) hX hbl hbA (by omega) (by omega) dL_law_843 ?_
  rw [show (1 : Int).toNat = 1 from rfl]
  refine x_aload_n C.1 dL_law_844 3 rfl ?_
  refine x_iload_n C.1 dL_law_845 0 rfl ?_
  refine x_iconst C.1 (n := 2) dL_law_846 ?_
  refine x_iadd C.1 (v := 2) (by decide) dL_law_847 ?_
  refine x_sld C (b := b) (i := 2) hX hbl hbA (by omega) (by omega) dL_law_848 ?_
  rw [show (2 : Int).toNat = 2 from rfl]
  refine x_aload_n C.1 dL_law_849 3 rfl ?_
  refine x_iload_n C.1 dL_law_850 0 rfl ?_
  refine x_iconst C.1 (n := 3) dL_law_851 ?_
  refine x_iadd C.1 (v := 3) (by decide) dL_law_852 ?_
  refine x_sld C (b := b) (i := 3) hX hbl hbA (by omega) (by omega) dL_law_853 ?_
  rw [show (3 : Int).toNat = 3 from rfl]
  refine x_aload_n C.1 dL_law_854 3 rfl ?_
  refine x_iload_n C.1 dL_law_855 0 rfl ?_
  refine x_iconst C.1 (n := 4) dL_law_856 ?_
  refine x_iadd C.1 (v := 4) (by decide) dL_law_857 ?_
  refine x_sld C (b := b) (i := 4) hX hbl hbA (by omega) (by omega) dL_law_858 ?_
  rw [show (4 : Int).toNat = 4 from rfl]
  refine x_callVl C (As := [vI ((xs 1).toInt), vI ((xs 2).toInt), vI ((xs 3).toInt), vI ((xs 4).toInt)]) (rest := [vJ r38]) 129 law_m vc_X12 (g_pot l D cy um V0m J0 R0m M_VR X_VJ ((xs 1).toInt) ((xs 2).toInt) ((xs 3).toInt) ((xs 4).toInt) (xi_r _) (xi_r _) (xi_r _) (xi_r _) M_76 M_78 M_tp) (l1 := XW cy ux V0x J0 R0x) (l2 := []) (List.append_nil _).symm (w2 := fun u39 : Unit => XW cy ux V0x J0 R0x ++ MW cy um V0m J0 R0m) (fun _ => List.append_nil _) rfl wm_yX12_pot wn_X12 wl_L_84 wi_yX12_pot we_yX12_pot hd_yX12_pot rfl ⟨Nat.le_of_ble_eq_true rfl, Nat.le_of_ble_eq_true rfl⟩ (Nat.le_of_ble_eq_true rfl) ⟨Nat.le_of_ble_eq_true rfl, Nat.le_of_ble_eq_true rfl⟩ dL_law_859 (fun r39 u39 hr39 h39 => ?_)
  refine x_lcmp C.1 (v := 0) ((lcI_eq _ _).mpr (by omega)) dL_law_862 hr38 hr39 ?_
  refine x_if_eq_t C.1 (tgt := 1504) dL_law_863 (by decide) (by decide) rfl ?_
  refine x_iinc C.1 (v := 6) (lv' := [(3, vI 6), (2, .ref (um 0)), (1, .ref (ux 0)), (0, .ref b)]) (by decide) dL_law_1504 0 rfl (by decide) rfl ?_
  refine x_goto C.1 (tgt := 18) dL_law_1507 (by decide) ?_
  refine x_iload_n C.1 dL_law_18 0 rfl ?_
  refine x_aload_n C.1 dL_law_19 3 rfl ?_
  refine x_slen C (b := b) hX hbl hbA dL_law_20 ?_
  refine x_bipush C.1 (n := 6) dL_law_21 ?_
  refine x_isub C.1 rfl dL_law_23 ?_
  refine x_icmp_gt_t C.1 (tgt := 1510) dL_law_24 (by decide) (by decide) (by omega) (by omega) ?_
  refine x_iconst C.1 (n := 1) dL_law_1510 ?_
  exact x_lend C hr dL_law_1511 (Nat.le_of_ble_eq_true rfl) (Nat.le_of_ble_eq_true rfl)
set_option maxHeartbeats 4000000 in
set_option maxRecDepth 100000 in
theorem law_case_16 {p : Program} {e : Env} {s : State} {m : MethodId} {below : List Frame} {meth : Method} {c : Code} (l : Launch) (D : va_G) (cy : Nat → ClassId) {b L : Nat} {xs : Nat → Int32} (C : xC2 p s m #[Value.ref b] meth c D (fun q => s.heap.size ≤ q) s.heap 4 code RL (xTY cy)) (hr : meth.sig.returnType = ret) (hX : va_X b L xs s s.heap) (hbl : b < s.heap.size) (hbA : ¬ (fun q : Nat => s.heap.size ≤ q) b) (hL6 : L = 6) (ux um : Nat → Nat) (cs : Nat × Nat) (hcs : cs = (162, 8366)) : xW p l e room_1 s m #[Value.ref b] below meth c D (fun q => s.heap.size ≤ q) s.heap 4 cs.1 cs.2 (lw_Z below #[Value.ref b] s) (XW cy ux V0x J0 R0x ++ MW cy um V0m J0 R0m) 868 [(3, vI 0), (2, .ref (um 0)), (1, .ref (ux 0)), (0, .ref b)] [] := by
  subst hcs
  refine x_aload_n C.1 dL_law_868 2 rfl ?_
  refine x_aload_n C.1 dL_law_869 3 rfl ?_
  refine x_iload_n C.1 dL_law_870 0 rfl ?_
  refine x_iconst C.1 (n := 1) dL_law_871 ?_
  refine x_iadd C.1 (v := 1) (by decide) dL_law_872 ?_
  refine x_sld C (b := b) (i := 1) hX hbl hbA (by omega) (by omega) dL_law_873 ?_
  rw [show (1 : Int).toNat = 1 from rfl]
  refine x_aload_n C.1 dL_law_874 3 rfl ?_
  refine x_iload_n C.1 dL_law_875 0 rfl ?_
  refine x_iconst C.1 (n := 2) dL_law_876 ?_
  refine x_iadd C.1 (v := 2) (by decide) dL_law_877 ?_
  refine x_sld C (b := b) (i := 2) hX hbl hbA (by omega) (by omega) dL_law_878 ?_
  rw [show (2 : Int).toNat = 2 from rfl]
  refine x_aload_n C.1 dL_law_879 3 rfl ?_
  refine x_iload_n C.1 dL_law_880 0 rfl ?_
  refine x_iconst C.1 (n := 3) dL_law_881 ?_
  refine x_iadd C.1 (v := 3) (by decide) dL_law_882 ?_
  refine x_sld C (b := b) (i := 3) hX hbl hbA (by omega) (by omega) dL_law_883 ?_
  rw [show (3 : Int).toNat = 3 from rfl]
  refine x_aload_n C.1 dL_law_884 3 rfl ?_
  refine x_iload_n C.1 dL_law_885 0 rfl ?_
  refine x_iconst C.1 (n := 4) dL_law_886 ?_
  refine x_iadd C.1 (v := 4) (by decide) dL_law_887 ?_
  refine x_sld C (b := b) (i := 4) hX hbl hbA (by omega) (by omega) dL_law_888 ?_
  rw [show (4 : Int).toNat = 4 from rfl]
  refine x_aload_n C.1 dL_law_889 3 rfl ?_
  refine x_iload_n C.1 dL_law_890 0 rfl ?_
  refine x_iconst C.1 (n := 5) dL_law_891 ?_
  refine x_iadd C.1 (v := 5) (by decide) dL_law_892 ?_
  refine x_sld C (b := b) (i := 5) hX hbl hbA (by omega) (by omega) dL_law_893 ?_
  rw [show (5 : Int).toNat = 5 from rfl]
  refine x_callVl C (As := [vI ((xs 1).toInt), vI ((xs 2).toInt), vI ((xs 3).toInt), vI ((xs 4).toInt), vI ((xs 5).toInt)]) (rest := []) 0 law_x vc_X11 (f_ruleFor l D cy ux V0x J0 R0x X_VR X_VJ ((xs 1).toInt) ((xs 2).toInt) ((xs 3).toInt) ((xs 4).toInt) ((xs 5).toInt) (xi_r _) (xi_r _) (xi_r _) (xi_r _) (xi_r _) X_np X_ne X_tl) (l1 := []) (l2 := MW cy um V0m J0 R0m) rfl (w2 := fun u40 => XW cy ux V0x J0 R0x ++ MW cy um V0m J0 R0m) (fun _ => rfl) rfl wm_yX11_ruleFor wn_X11 wl_L_85 wi_yX11_ruleFor we_yX11_ruleFor hd_yX11_ruleFor rfl ⟨Nat.le_of_ble_eq_true rfl, Nat.le_of_ble_eq_true rfl⟩ (Nat.le_of_ble_eq_true rfl) ⟨Nat.le_of_ble_eq_true rfl, Nat.le_of_ble_eq_true rfl⟩ dL_law_894 (fun r40 u40 hr40 h40 => ?_)
  refine x_aload_n C.1 dL_law_897 1 rfl ?_
  refine x_aload_n C.1 dL_law_898 3 rfl ?_
  refine x_iload_n C.1 dL_law_899 0 rfl ?_
  refine x_iconst C.1 (n := 1) dL_law_900 ?_
  refine x_iadd C.1 (v := 1) (by decide) dL_law_901 ?_
  refine x_sld C (b := b) (i := 1) hX hbl hbA (by omega) (by omega) dL_law_902 ?_
  rw [show (1 : Int).toNat = 1 from rfl]
  refine x_aload_n C.1 dL_law_903 3 rfl ?_
  refine x_iload_n C.1 dL_law_904 0 rfl ?_
  refine x_iconst C.1 (n := 2) dL_law_905 ?_
  refine x_iadd C.1 (v := 2) (by decide) dL_law_906 ?_
  refine x_sld C (b := b) (i := 2) hX hbl hbA (by omega) (by omega) dL_law_907 ?_
  rw [show (2 : Int).toNat = 2 from rfl]
  refine x_aload_n C.1 dL_law_908 3 rfl ?_
  refine x_iload_n C.1 dL_law_909 0 rfl ?_
  refine x_iconst C.1 (n := 3) dL_law_910 ?_
  refine x_iadd C.1 (v := 3) (by decide) dL_law_911 ?_
  refine x_sld C (b := b) (i := 3) hX hbl hbA (by omega) (by omega) dL_law_912 ?_
  rw [show (3 : Int).toNat = 3 from rfl]
  refine x_aload_n C.1 dL_law_913 3 rfl ?_
  refine x_iload_n C.1 dL_law_914 0 rfl ?_
  refine x_iconst C.1 (n := 4) dL_law_915 ?_
  refine x_iadd C.1 (v := 4) (by decide) dL_law_916 ?_
  refine x_sld C (b := b) (i := 4) hX hbl hbA (by omega) (by omega) dL_law_917 ?_
  rw [show (4 : Int).toNat = 4 from rfl]
  refine x_aload_n C.1 dL_law_918 3 rfl ?_
  refine x_iload_n C.1 dL_law_919 0 rfl ?_
  refine x_iconst C.1 (n := 5) dL_law_920 ?_
  refine x_iadd C.1 (v := 5) (by decide) dL_law_921 ?_
  refine x_sld C (b := b) (i := 5) hX hbl hbA (by omega) (by omega) dL_law_922 ?_
  rw [show (5 : Int).toNat = 5 from rfl]
  refine x_callVl C (As := [vI ((xs 1).toInt), vI ((xs 2).toInt), vI ((xs 3).toInt), vI ((xs 4).toInt), vI ((xs 5).toInt)]) (rest := [vJ r40]) 129 law_m vc_X12 (g_ruleFor l D cy um V0m J0 R0m M_VR X_VJ ((xs 1).toInt) ((xs 2).toInt) ((xs 3).toInt) ((xs 4).toInt) ((xs 5).toInt) (xi_r _) (xi_r _) (xi_r _) (xi_r _) (xi_r _) M_76 M_78 M_tp) (l1 := XW cy ux V0x J0 R0x) (l2 := []) (List.append_nil _).symm (w2 := fun u41 : Unit => XW cy ux V0x J0 R0x ++ MW cy um V0m J0 R0m) (fun _ => List.append_nil _) rfl wm_yX12_ruleFor wn_X12 wl_L_89 wi_yX12_ruleFor we_yX12_ruleFor hd_yX12_ruleFor rfl ⟨Nat.le_of_ble_eq_true rfl, Nat.le_of_ble_eq_true rfl⟩ (Nat.le_of_ble_eq_true rfl) ⟨Nat.le_of_ble_eq_true rfl, Nat.le_of_ble_eq_true rfl⟩ dL_law_923 (fun r41 u41 hr41 h41 => ?_)
  refine x_lcmp C.1 (v := 0) ((lcI_eq _ _).mpr (by omega)) dL_law_926 hr40 hr41 ?_
  refine x_if_eq_t C.1 (tgt := 1504) dL_law_927 (by decide) (by decide) rfl ?_
  refine x_iinc C.1 (v := 6) (lv' := [(3, vI 6), (2, .ref (um 0)), (1, .ref (ux 0)), (0, .ref b)]) (by decide) dL_law_1504 0 rfl (by decide) rfl ?_
  refine x_goto C.1 (tgt := 18) dL_law_1507 (by decide) ?_
  refine x_iload_n C.1 dL_law_18 0 rfl ?_
  refine x_aload_n C.1 dL_law_19 3 rfl ?_
  refine x_slen C (b := b) hX hbl hbA dL_law_20 ?_
  refine x_bipush C.1 (n := 6) dL_law_21 ?_
  refine x_isub C.1 rfl dL_law_23 ?_
  refine x_icmp_gt_t C.1 (tgt := 1510) dL_law_24 (by decide) (by decide) (by omega) (by omega) ?_
  refine x_iconst C.1 (n := 1) dL_law_1510 ?_
  exact x_lend C hr dL_law_1511 (Nat.le_of_ble_eq_true rfl) (Nat.le_of_ble_eq_true rfl)
set_option maxHeartbeats 4000000 in
set_option maxRecDepth 100000 in
theorem law_case_17 {p : Program} {e : Env} {s : State} {m : MethodId} {below : List Frame} {meth : Method} {c : Code} (l : Launch) (D : va_G) (cy : Nat → ClassId) {b L : Nat} {xs : Nat → Int32} (C : xC2 p s m #[Value.ref b] meth c D (fun q => s.heap.size ≤ q) s.heap 4 code RL (xTY cy)) (hr : meth.sig.returnType = ret) (hX : va_X b L xs s s.heap) (hbl : b < s.heap.size) (hbA : ¬ (fun q : Nat => s.heap.size ≤ q) b) (hL6 : L = 6) (ux um : Nat → Nat) (cs : Nat × Nat) (hcs : cs = (162, 8366)) : xW p l e room_1 s m #[Value.ref b] below meth c D (fun q => s.heap.size ≤ q) s.heap 4 cs.1 cs.2 (lw_Z below #[Value.ref b] s) (XW cy ux V0x J0 R0x ++ MW cy um V0m J0 R0m) 932 [(3, vI 0), (2, .ref (um 0)), (1, .ref (ux 0)), (0, .ref b)] [] := by
  subst hcs
  refine x_aload_n C.1 dL_law_932 2 rfl ?_
  refine x_aload_n C.1 dL_law_933 3 rfl ?_
  refine x_iload_n C.1 dL_law_934 0 rfl ?_
  refine x_iconst C.1 (n := 1) dL_law_935 ?_
  refine x_iadd C.1 (v := 1) (by decide) dL_law_936 ?_
  refine x_sld C (b := b) (i := 1) hX hbl hbA (by omega) (by omega) dL_law_937 ?_
  rw [show (1 : Int).toNat = 1 from rfl]
  refine x_aload_n C.1 dL_law_938 3 rfl ?_
  refine x_iload_n C.1 dL_law_939 0 rfl ?_
  refine x_iconst C.1 (n := 2) dL_law_940 ?_
  refine x_iadd C.1 (v := 2) (by decide) dL_law_941 ?_
  refine x_sld C (b := b) (i := 2) hX hbl hbA (by omega) (by omega) dL_law_942 ?_
  rw [show (2 : Int).toNat = 2 from rfl]
  refine x_callVi C (As := [vI ((xs 1).toInt), vI ((xs 2).toInt)]) (rest := []) 0 law_x vc_X11 (f_lasts l D cy ux V0x J0 R0x X_VR X_VJ ((xs 1).toInt) ((xs 2).toInt) (xi_r _) (xi_r _) X_np X_ne X_tl) (l1 := []) (l2 := MW cy um V0m J0 R0m) rfl (w2 := fun u42 => XW cy ux V0x J0 R0x ++ MW cy um V0m J0 R0m) (fun _ => rfl) rfl wm_yX11_lasts wn_X11 wl_L_90 wi_yX11_lasts we_yX11_lasts hd_yX11_lasts rfl ⟨Nat.le_of_ble_eq_true rfl, Nat.le_of_ble_eq_true rfl⟩ (Nat.le_of_ble_eq_true rfl) ⟨Nat.le_of_ble_eq_true rfl, Nat.le_of_ble_eq_true rfl⟩ dL_law_943 (fun r42 u42 hr42 h42 => ?_)
  refine x_aload_n C.1 dL_law_946 1 rfl ?_
  refine x_aload_n C.1 dL_law_947 3 rfl ?_
  refine x_iload_n C.1 dL_law_948 0 rfl ?_
  refine x_iconst C.1 (n := 1) dL_law_949 ?_
  refine x_iadd C.1 (v := 1) (by decide) dL_law_950 ?_
  refine x_sld C (b := b) (i := 1) hX hbl hbA (by omega) (by omega) dL_law_951 ?_
  rw [show (1 : Int).toNat = 1 from rfl]
  refine x_aload_n C.1 dL_law_952 3 rfl ?_
  refine x_iload_n C.1 dL_law_953 0 rfl ?_
  refine x_iconst C.1 (n := 2) dL_law_954 ?_
  refine x_iadd C.1 (v := 2) (by decide) dL_law_955 ?_
  refine x_sld C (b := b) (i := 2) hX hbl hbA (by omega) (by omega) dL_law_956 ?_
  rw [show (2 : Int).toNat = 2 from rfl]
  refine x_callVi C (As := [vI ((xs 1).toInt), vI ((xs 2).toInt)]) (rest := [vI r42]) 129 law_m vc_X12 (g_lasts l D cy um V0m J0 R0m M_VR X_VJ ((xs 1).toInt) ((xs 2).toInt) (xi_r _) (xi_r _) M_76 M_78 M_tp) (l1 := XW cy ux V0x J0 R0x) (l2 := []) (List.append_nil _).symm (w2 := fun u43 : Unit => XW cy ux V0x J0 R0x ++ MW cy um V0m J0 R0m) (fun _ => List.append_nil _) rfl wm_yX12_lasts wn_X12 wl_L_93 wi_yX12_lasts we_yX12_lasts hd_yX12_lasts rfl ⟨Nat.le_of_ble_eq_true rfl, Nat.le_of_ble_eq_true rfl⟩ (Nat.le_of_ble_eq_true rfl) ⟨Nat.le_of_ble_eq_true rfl, Nat.le_of_ble_eq_true rfl⟩ dL_law_957 (fun r43 u43 hr43 h43 => ?_)
  refine x_icmp_eq_t C.1 (tgt := 1504) dL_law_960 (by decide) hr42 hr43 (by omega) ?_
  refine x_iinc C.1 (v := 6) (lv' := [(3, vI 6), (2, .ref (um 0)), (1, .ref (ux 0)), (0, .ref b)]) (by decide) dL_law_1504 0 rfl (by decide) rfl ?_
  refine x_goto C.1 (tgt := 18) dL_law_1507 (by decide) ?_
  refine x_iload_n C.1 dL_law_18 0 rfl ?_
  refine x_aload_n C.1 dL_law_19 3 rfl ?_
  refine x_slen C (b := b) hX hbl hbA dL_law_20 ?_
  refine x_bipush C.1 (n := 6) dL_law_21 ?_
  refine x_isub C.1 rfl dL_law_23 ?_
  refine x_icmp_gt_t C.1 (tgt := 1510) dL_law_24 (by decide) (by decide) (by omega) (by omega) ?_
  refine x_iconst C.1 (n := 1) dL_law_1510 ?_
  exact x_lend C hr dL_law_1511 (Nat.le_of_ble_eq_true rfl) (Nat.le_of_ble_eq_true rfl)
set_option maxHeartbeats 4000000 in
set_option maxRecDepth 100000 in
theorem law_case_18 {p : Program} {e : Env} {s : State} {m : MethodId} {below : List Frame} {meth : Method} {c : Code} (l : Launch) (D : va_G) (cy : Nat → ClassId) {b L : Nat} {xs : Nat → Int32} (C : xC2 p s m #[Value.ref b] meth c D (fun q => s.heap.size ≤ q) s.heap 4 code RL (xTY cy)) (hr : meth.sig.returnType = ret) (hX : va_X b L xs s s.heap) (hbl : b < s.heap.size) (hbA : ¬ (fun q : Nat => s.heap.size ≤ q) b) (hL6 : L = 6) (ux um : Nat → Nat) (cs : Nat × Nat) (hcs : cs = (162, 8366)) : xW p l e room_1 s m #[Value.ref b] below meth c D (fun q => s.heap.size ≤ q) s.heap 4 cs.1 cs.2 (lw_Z below #[Value.ref b] s) (XW cy ux V0x J0 R0x ++ MW cy um V0m J0 R0m) 965 [(3, vI 0), (2, .ref (um 0)), (1, .ref (ux 0)), (0, .ref b)] [] := by
  subst hcs
  refine x_aload_n C.1 dL_law_965 2 rfl ?_
  refine x_aload_n C.1 dL_law_966 3 rfl ?_
  refine x_iload_n C.1 dL_law_967 0 rfl ?_
  refine x_iconst C.1 (n := 1) dL_law_968 ?_
  refine x_iadd C.1 (v := 1) (by decide) dL_law_969 ?_
  refine x_sld C (b := b) (i := 1) hX hbl hbA (by omega) (by omega) dL_law_970 ?_
  rw [show (1 : Int).toNat = 1 from rfl]
  refine x_aload_n C.1 dL_law_971 3 rfl ?_
  refine x_iload_n C.1 dL_law_972 0 rfl ?_
  refine x_iconst C.1 (n := 2) dL_law_973 ?_
  refine x_iadd C.1 (v := 2) (by decide) dL_law_974 ?_
  refine x_sld C (b := b) (i := 2) hX hbl hbA (by omega) (by omega) dL_law_975 ?_
  rw [show (2 : Int).toNat = 2 from rfl]
  refine x_callVi C (As := [vI ((xs 1).toInt), vI ((xs 2).toInt)]) (rest := []) 0 law_x vc_X11 (f_needs l D cy ux V0x J0 R0x X_VR X_VJ ((xs 1).toInt) ((xs 2).toInt) (xi_r _) (xi_r _) X_np X_ne X_tl) (l1 := []) (l2 := MW cy um V0m J0 R0m) rfl (w2 := fun u44 => XW cy ux V0x J0 R0x ++ MW cy um V0m J0 R0m) (fun _ => rfl) rfl wm_yX11_needs wn_X11 wl_L_94 wi_yX11_needs we_yX11_needs hd_yX11_needs rfl ⟨Nat.le_of_ble_eq_true rfl, Nat.le_of_ble_eq_true rfl⟩ (Nat.le_of_ble_eq_true rfl) ⟨Nat.le_of_ble_eq_true rfl, Nat.le_of_ble_eq_true rfl⟩ dL_law_976 (fun r44 u44 hr44 h44 => ?_)
  refine x_aload_n C.1 dL_law_979 1 rfl ?_
  refine x_aload_n C.1 dL_law_980 3 rfl ?_
  refine x_iload_n C.1 dL_law_981 0 rfl ?_
  refine x_iconst C.1 (n := 1) dL_law_982 ?_
  refine x_iadd C.1 (v := 1) (by decide) dL_law_983 ?_
  refine x_sld C (b := b) (i := 1) hX hbl hbA (by omega) (by omega) dL_law_984 ?_
  rw [show (1 : Int).toNat = 1 from rfl]
  refine x_aload_n C.1 dL_law_985 3 rfl ?_
  refine x_iload_n C.1 dL_law_986 0 rfl ?_
  refine x_iconst C.1 (n := 2) dL_law_987 ?_
  refine x_iadd C.1 (v := 2) (by decide) dL_law_988 ?_
  refine x_sld C (b := b) (i := 2) hX hbl hbA (by omega) (by omega) dL_law_989 ?_
  rw [show (2 : Int).toNat = 2 from rfl]
  refine x_callVi C (As := [vI ((xs 1).toInt), vI ((xs 2).toInt)]) (rest := [vI r44]) 129 law_m vc_X12 (g_needs l D cy um V0m J0 R0m M_VR X_VJ ((xs 1).toInt) ((xs 2).toInt) (xi_r _) (xi_r _) M_76 M_78 M_tp) (l1 := XW cy ux V0x J0 R0x) (l2 := []) (List.append_nil _).symm (w2 := fun u45 : Unit => XW cy ux V0x J0 R0x ++ MW cy um V0m J0 R0m) (fun _ => List.append_nil _) rfl wm_yX12_needs wn_X12 wl_L_97 wi_yX12_needs we_yX12_needs hd_yX12_needs rfl ⟨Nat.le_of_ble_eq_true rfl, Nat.le_of_ble_eq_true rfl⟩ (Nat.le_of_ble_eq_true rfl) ⟨Nat.le_of_ble_eq_true rfl, Nat.le_of_ble_eq_true rfl⟩ dL_law_990 (fun r45 u45 hr45 h45 => ?_)
  refine x_icmp_eq_t C.1 (tgt := 1504) dL_law_993 (by decide) hr44 hr45 (by omega) ?_
  refine x_iinc C.1 (v := 6) (lv' := [(3, vI 6), (2, .ref (um 0)), (1, .ref (ux 0)), (0, .ref b)]) (by decide) dL_law_1504 0 rfl (by decide) rfl ?_
  refine x_goto C.1 (tgt := 18) dL_law_1507 (by decide) ?_
  refine x_iload_n C.1 dL_law_18 0 rfl ?_
  refine x_aload_n C.1 dL_law_19 3 rfl ?_
  refine x_slen C (b := b) hX hbl hbA dL_law_20 ?_
  refine x_bipush C.1 (n := 6) dL_law_21 ?_
  refine x_isub C.1 rfl dL_law_23 ?_
  refine x_icmp_gt_t C.1 (tgt := 1510) dL_law_24 (by decide) (by decide) (by omega) (by omega) ?_
  refine x_iconst C.1 (n := 1) dL_law_1510 ?_
  exact x_lend C hr dL_law_1511 (Nat.le_of_ble_eq_true rfl) (Nat.le_of_ble_eq_true rfl)
set_option maxHeartbeats 4000000 in
set_option maxRecDepth 100000 in
theorem law_case_19 {p : Program} {e : Env} {s : State} {m : MethodId} {below : List Frame} {meth : Method} {c : Code} (l : Launch) (D : va_G) (cy : Nat → ClassId) {b L : Nat} {xs : Nat → Int32} (C : xC2 p s m #[Value.ref b] meth c D (fun q => s.heap.size ≤ q) s.heap 4 code RL (xTY cy)) (hr : meth.sig.returnType = ret) (hX : va_X b L xs s s.heap) (hbl : b < s.heap.size) (hbA : ¬ (fun q : Nat => s.heap.size ≤ q) b) (hL6 : L = 6) (ux um : Nat → Nat) (cs : Nat × Nat) (hcs : cs = (162, 8366)) : xW p l e room_1 s m #[Value.ref b] below meth c D (fun q => s.heap.size ≤ q) s.heap 4 cs.1 cs.2 (lw_Z below #[Value.ref b] s) (XW cy ux V0x J0 R0x ++ MW cy um V0m J0 R0m) 998 [(3, vI 0), (2, .ref (um 0)), (1, .ref (ux 0)), (0, .ref b)] [] := by
  subst hcs
  refine x_aload_n C.1 dL_law_998 2 rfl ?_
  refine x_aload_n C.1 dL_law_999 3 rfl ?_
  refine x_iload_n C.1 dL_law_1000 0 rfl ?_
  refine x_iconst C.1 (n := 1) dL_law_1001 ?_
  refine x_iadd C.1 (v := 1) (by decide) dL_law_1002 ?_
  refine x_sld C (b := b) (i := 1) hX hbl hbA (by omega) (by omega) dL_law_1003 ?_
  rw [show (1 : Int).toNat = 1 from rfl]
  refine x_aload_n C.1 dL_law_1004 3 rfl ?_
  refine x_iload_n C.1 dL_law_1005 0 rfl ?_
  refine x_iconst C.1 (n := 2) dL_law_1006 ?_
  refine x_iadd C.1 (v := 2) (by decide) dL_law_1007 ?_
  refine x_sld C (b := b) (i := 2) hX hbl hbA (by omega) (by omega) dL_law_1008 ?_
  rw [show (2 : Int).toNat = 2 from rfl]
  refine x_aload_n C.1 dL_law_1009 3 rfl ?_
  refine x_iload_n C.1 dL_law_1010 0 rfl ?_
  refine x_iconst C.1 (n := 3) dL_law_1011 ?_
  refine x_iadd C.1 (v := 3) (by decide) dL_law_1012 ?_
  refine x_sld C (b := b) (i := 3) hX hbl hbA (by omega) (by omega) dL_law_1013 ?_
  rw [show (3 : Int).toNat = 3 from rfl]
  refine x_callVi C (As := [vI ((xs 1).toInt), vI ((xs 2).toInt), vI ((xs 3).toInt)]) (rest := []) 0 law_x vc_X11 (f_week l D cy ux V0x J0 R0x X_VR X_VJ ((xs 1).toInt) ((xs 2).toInt) ((xs 3).toInt) (xi_r _) (xi_r _) (xi_r _) X_np X_ne X_tl) (l1 := []) (l2 := MW cy um V0m J0 R0m) rfl (w2 := fun u46 => XW cy ux V0x J0 R0x ++ MW cy um V0m J0 R0m) (fun _ => rfl) rfl wm_yX11_week wn_X11 wl_L_98 wi_yX11_week we_yX11_week hd_yX11_week rfl ⟨Nat.le_of_ble_eq_true rfl, Nat.le_of_ble_eq_true rfl⟩ (Nat.le_of_ble_eq_true rfl) ⟨Nat.le_of_ble_eq_true rfl, Nat.le_of_ble_eq_true rfl⟩ dL_law_1014 (fun r46 u46 hr46 h46 => ?_)
  refine x_aload_n C.1 dL_law_1017 1 rfl ?_
  refine x_aload_n C.1 dL_law_1018 3 rfl ?_
  refine x_iload_n C.1 dL_law_1019 0 rfl ?_
  refine x_iconst C.1 (n := 1) dL_law_1020 ?_
  refine x_iadd C.1 (v := 1) (by decide) dL_law_1021 ?_
  refine x_sld C (b := b) (i := 1) hX hbl hbA (by omega) (by omega) dL_law_1022 ?_
  rw [show (1 : Int).toNat = 1 from rfl]
  refine x_aload_n C.1 dL_law_1023 3 rfl ?_
  refine x_iload_n C.1 dL_law_1024 0 rfl ?_
  refine x_iconst C.1 (n := 2) dL_law_1025 ?_
  refine x_iadd C.1 (v := 2) (by decide) dL_law_1026 ?_
  refine x_sld C (b := b) (i := 2) hX hbl hbA (by omega) (by omega) dL_law_1027 ?_
  rw [show (2 : Int).toNat = 2 from rfl]
  refine x_aload_n C.1 dL_law_1028 3 rfl ?_
  refine x_iload_n C.1 dL_law_1029 0 rfl ?_
  refine x_iconst C.1 (n := 3) dL_law_1030 ?_
  refine x_iadd C.1 (v := 3) (by decide) dL_law_1031 ?_
  refine x_sld C (b := b) (i := 3) hX hbl hbA (by omega) (by omega) dL_law_1032 ?_
  rw [show (3 : Int).toNat = 3 from rfl]
  refine x_callVi C (As := [vI ((xs 1).toInt), vI ((xs 2).toInt), vI ((xs 3).toInt)]) (rest := [vI r46]) 129 law_m vc_X12 (g_week l D cy um V0m J0 R0m M_VR X_VJ ((xs 1).toInt) ((xs 2).toInt) ((xs 3).toInt) (xi_r _) (xi_r _) (xi_r _) M_76 M_78 M_tp) (l1 := XW cy ux V0x J0 R0x) (l2 := []) (List.append_nil _).symm (w2 := fun u47 : Unit => XW cy ux V0x J0 R0x ++ MW cy um V0m J0 R0m) (fun _ => List.append_nil _) rfl wm_yX12_week wn_X12 wl_L_102 wi_yX12_week we_yX12_week hd_yX12_week rfl ⟨Nat.le_of_ble_eq_true rfl, Nat.le_of_ble_eq_true rfl⟩ (Nat.le_of_ble_eq_true rfl) ⟨Nat.le_of_ble_eq_true rfl, Nat.le_of_ble_eq_true rfl⟩ dL_law_1033 (fun r47 u47 hr47 h47 => ?_)
  refine x_icmp_eq_t C.1 (tgt := 1504) dL_law_1036 (by decide) hr46 hr47 (by omega) ?_
  refine x_iinc C.1 (v := 6) (lv' := [(3, vI 6), (2, .ref (um 0)), (1, .ref (ux 0)), (0, .ref b)]) (by decide) dL_law_1504 0 rfl (by decide) rfl ?_
  refine x_goto C.1 (tgt := 18) dL_law_1507 (by decide) ?_
  refine x_iload_n C.1 dL_law_18 0 rfl ?_
  refine x_aload_n C.1 dL_law_19 3 rfl ?_
  refine x_slen C (b := b) hX hbl hbA dL_law_20 ?_
  refine x_bipush C.1 (n := 6) dL_law_21 ?_
  refine x_isub C.1 rfl dL_law_23 ?_
  refine x_icmp_gt_t C.1 (tgt := 1510) dL_law_24 (by decide) (by decide) (by omega) (by omega) ?_
  refine x_iconst C.1 (n := 1) dL_law_1510 ?_
  exact x_lend C hr dL_law_1511 (Nat.le_of_ble_eq_true rfl) (Nat.le_of_ble_eq_true rfl)
set_option maxHeartbeats 4000000 in
set_option maxRecDepth 100000 in
theorem law_case_20 {p : Program} {e : Env} {s : State} {m : MethodId} {below : List Frame} {meth : Method} {c : Code} (l : Launch) (D : va_G) (cy : Nat → ClassId) {b L : Nat} {xs : Nat → Int32} (C : xC2 p s m #[Value.ref b] meth c D (fun q => s.heap.size ≤ q) s.heap 4 code RL (xTY cy)) (hr : meth.sig.returnType = ret) (hX : va_X b L xs s s.heap) (hbl : b < s.heap.size) (hbA : ¬ (fun q : Nat => s.heap.size ≤ q) b) (hL6 : L = 6) (ux um : Nat → Nat) (cs : Nat × Nat) (hcs : cs = (162, 8366)) : xW p l e room_1 s m #[Value.ref b] below meth c D (fun q => s.heap.size ≤ q) s.heap 4 cs.1 cs.2 (lw_Z below #[Value.ref b] s) (XW cy ux V0x J0 R0x ++ MW cy um V0m J0 R0m) 1041 [(3, vI 0), (2, .ref (um 0)), (1, .ref (ux 0)), (0, .ref b)] [] := by
  subst hcs
  refine x_aload_n C.1 dL_law_1041 2 rfl ?_
  refine x_aload_n C.1 dL_law_1042 3 rfl ?_
  refine x_iload_n C.1 dL_law_1043 0 rfl ?_
  refine x_iconst C.1 (n := 1) dL_law_1044 ?_
  refine x_iadd C.1 (v := 1) (by decide) dL_law_1045 ?_
  refine x_sld C (b := b) (i := 1) hX hbl hbA (by omega) (by omega) dL_law_1046 ?_
  rw [show (1 : Int).toNat = 1 from rfl]
  refine x_aload_n C.1 dL_law_1047 3 rfl ?_
  refine x_iload_n C.1 dL_law_1048 0 rfl ?_
  refine x_iconst C.1 (n := 2) dL_law_1049 ?_
  refine x_iadd C.1 (v := 2) (by decide) dL_law_1050 ?_
  refine x_sld C (b := b) (i := 2) hX hbl hbA (by omega) (by omega) dL_law_1051 ?_
  rw [show (2 : Int).toNat = 2 from rfl]
  refine x_aload_n C.1 dL_law_1052 3 rfl ?_
  refine x_iload_n C.1 dL_law_1053 0 rfl ?_
  refine x_iconst C.1 (n := 3) dL_law_1054 ?_
  refine x_iadd C.1 (v := 3) (by decide) dL_law_1055 ?_
  refine x_sld C (b := b) (i := 3) hX hbl hbA (by omega) (by omega) dL_law_1056 ?_
  rw [show (3 : Int).toNat = 3 from rfl]
  refine x_aload_n C.1 dL_law_1057 3 rfl ?_
  refine x_iload_n C.1 dL_law_1058 0 rfl ?_
  refine x_iconst C.1 (n := 4) dL_law_1059 ?_
  refine x_iadd C.1 (v := 4) (by decide) dL_law_1060 ?_
  refine x_sld C (b := b) (i := 4) hX hbl hbA (by omega) (by omega) dL_law_1061 ?_
  rw [show (4 : Int).toNat = 4 from rfl]
  refine x_callVl C (As := [vI ((xs 1).toInt), vI ((xs 2).toInt), vI ((xs 3).toInt), vI ((xs 4).toInt)]) (rest := []) 0 law_x vc_X11 (f_movesOut l D cy ux V0x J0 R0x X_VR X_VJ ((xs 1).toInt) ((xs 2).toInt) ((xs 3).toInt) ((xs 4).toInt) (xi_r _) (xi_r _) (xi_r _) (xi_r _) X_np X_ne X_tl) (l1 := []) (l2 := MW cy um V0m J0 R0m) rfl (w2 := fun u48 => XW cy ux V0x J0 R0x ++ MW cy um V0m J0 R0m) (fun _ => rfl) rfl wm_yX11_movesOut wn_X11 wl_L_103 wi_yX11_movesOut we_yX11_movesOut hd_yX11_movesOut rfl ⟨Nat.le_of_ble_eq_true rfl, Nat.le_of_ble_eq_true rfl⟩ (Nat.le_of_ble_eq_true rfl) ⟨Nat.le_of_ble_eq_true rfl, Nat.le_of_ble_eq_true rfl⟩ dL_law_1062 (fun r48 u48 hr48 h48 => ?_)
  refine x_aload_n C.1 dL_law_1065 1 rfl ?_
  refine x_aload_n C.1 dL_law_1066 3 rfl ?_
  refine x_iload_n C.1 dL_law_1067 0 rfl ?_
  refine x_iconst C.1 (n := 1) dL_law_1068 ?_
  refine x_iadd C.1 (v := 1) (by decide) dL_law_1069 ?_
  refine x_sld C (b := b) (i := 1) hX hbl hbA (by omega) (by omega) dL_law_1070 ?_
  rw [show (1 : Int).toNat = 1 from rfl]
  refine x_aload_n C.1 dL_law_1071 3 rfl ?_
  refine x_iload_n C.1 dL_law_1072 0 rfl ?_
  refine x_iconst C.1 (n := 2) dL_law_1073 ?_
  refine x_iadd C.1 (v := 2) (by decide) dL_law_1074 ?_
  refine x_sld C (b := b) (i := 2) hX hbl hbA (by omega) (by omega) dL_law_1075 ?_
  rw [show (2 : Int).toNat = 2 from rfl]
  refine x_aload_n C.1 dL_law_1076 3 rfl ?_
  refine x_iload_n C.1 dL_law_1077 0 rfl ?_
  refine x_iconst C.1 (n := 3) dL_law_1078 ?_
  refine x_iadd C.1 (v := 3) (by decide) dL_law_1079 ?_
  refine x_sld C (b := b) (i := 3) hX hbl hbA (by omega) (by omega) dL_law_1080 ?_
  rw [show (3 : Int).toNat = 3 from rfl]
  refine x_aload_n C.1 dL_law_1081 3 rfl ?_
  refine x_iload_n C.1 dL_law_1082 0 rfl ?_
  refine x_iconst C.1 (n := 4) dL_law_1083 ?_
  refine x_iadd C.1 (v := 4) (by decide) dL_law_1084 ?_
  refine x_sld C (b := b) (i := 4) hX hbl hbA (by omega) (by omega) dL_law_1085 ?_
  rw [show (4 : Int).toNat = 4 from rfl]
  refine x_callVl C (As := [vI ((xs 1).toInt), vI ((xs 2).toInt), vI ((xs 3).toInt), vI ((xs 4).toInt)]) (rest := [vJ r48]) 129 law_m vc_X12 (g_movesOut l D cy um V0m J0 R0m M_VR X_VJ ((xs 1).toInt) ((xs 2).toInt) ((xs 3).toInt) ((xs 4).toInt) (xi_r _) (xi_r _) (xi_r _) (xi_r _) M_76 M_78 M_tp) (l1 := XW cy ux V0x J0 R0x) (l2 := []) (List.append_nil _).symm (w2 := fun u49 : Unit => XW cy ux V0x J0 R0x ++ MW cy um V0m J0 R0m) (fun _ => List.append_nil _) rfl wm_yX12_movesOut wn_X12 wl_L_106 wi_yX12_movesOut we_yX12_movesOut hd_yX12_movesOut rfl ⟨Nat.le_of_ble_eq_true rfl, Nat.le_of_ble_eq_true rfl⟩ (Nat.le_of_ble_eq_true rfl) ⟨Nat.le_of_ble_eq_true rfl, Nat.le_of_ble_eq_true rfl⟩ dL_law_1086 (fun r49 u49 hr49 h49 => ?_)
  refine x_lcmp C.1 (v := 0) ((lcI_eq _ _).mpr (by omega)) dL_law_1089 hr48 hr49 ?_
  refine x_if_eq_t C.1 (tgt := 1504) dL_law_1090 (by decide) (by decide) rfl ?_
  refine x_iinc C.1 (v := 6) (lv' := [(3, vI 6), (2, .ref (um 0)), (1, .ref (ux 0)), (0, .ref b)]) (by decide) dL_law_1504 0 rfl (by decide) rfl ?_
  refine x_goto C.1 (tgt := 18) dL_law_1507 (by decide) ?_
  refine x_iload_n C.1 dL_law_18 0 rfl ?_
  refine x_aload_n C.1 dL_law_19 3 rfl ?_
  refine x_slen C (b := b) hX hbl hbA dL_law_20 ?_
  refine x_bipush C.1 (n := 6) dL_law_21 ?_
  refine x_isub C.1 rfl dL_law_23 ?_
  refine x_icmp_gt_t C.1 (tgt := 1510) dL_law_24 (by decide) (by decide) (by omega) (by omega) ?_
  refine x_iconst C.1 (n := 1) dL_law_1510 ?_
  exact x_lend C hr dL_law_1511 (Nat.le_of_ble_eq_true rfl) (Nat.le_of_ble_eq_true rfl)
set_option maxHeartbeats 4000000 in
set_option maxRecDepth 100000 in
theorem law_case_21 {p : Program} {e : Env} {s : State} {m : MethodId} {below : List Frame} {meth : Method} {c : Code} (l : Launch) (D : va_G) (cy : Nat → ClassId) {b L : Nat} {xs : Nat → Int32} (C : xC2 p s m #[Value.ref b] meth c D (fun q => s.heap.size ≤ q) s.heap 4 code RL (xTY cy)) (hr : meth.sig.returnType = ret) (hX : va_X b L xs s s.heap) (hbl : b < s.heap.size) (hbA : ¬ (fun q : Nat => s.heap.size ≤ q) b) (hL6 : L = 6) (ux um : Nat → Nat) (cs : Nat × Nat) (hcs : cs = (162, 8366)) : xW p l e room_1 s m #[Value.ref b] below meth c D (fun q => s.heap.size ≤ q) s.heap 4 cs.1 cs.2 (lw_Z below #[Value.ref b] s) (XW cy ux V0x J0 R0x ++ MW cy um V0m J0 R0m) 1095 [(3, vI 0), (2, .ref (um 0)), (1, .ref (ux 0)), (0, .ref b)] [] := by
  subst hcs
  refine x_aload_n C.1 dL_law_1095 2 rfl ?_
  refine x_aload_n C.1 dL_law_1096 3 rfl ?_
  refine x_iload_n C.1 dL_law_1097 0 rfl ?_
  refine x_iconst C.1 (n := 1) dL_law_1098 ?_
  refine x_iadd C.1 (v := 1) (by decide) dL_law_1099 ?_
  refine x_sld C (b := b) (i := 1) hX hbl hbA (by omega) (by omega) dL_law_1100 ?_
  rw [show (1 : Int).toNat = 1 from rfl]
  refine x_aload_n C.1 dL_law_1101 3 rfl ?_
  refine x_iload_n C.1 dL_law_1102 0 rfl ?_
  refine x_iconst C.1 (n := 2) dL_law_1103 ?_
  refine x_iadd C.1 (v := 2) (by decide) dL_law_1104 ?_
  refine x_sld C (b := b) (i := 2) hX hbl hbA (by omega) (by omega) dL_law_1105 ?_
  rw [show (2 : Int).toNat = 2 from rfl]
  refine x_callVi C (As := [vI ((xs 1).toInt), vI ((xs 2).toInt)]) (rest := []) 0 law_x vc_X11 (f_spread l D cy ux V0x J0 R0x X_VR X_VJ ((xs 1).toInt) ((xs 2).toInt) (xi_r _) (xi_r _) X_np X_ne X_tl) (l1 := []) (l2 := MW cy um V0m J0 R0m) rfl (w2 := fun u50 => XW cy ux V0x J0 R0x ++ MW cy um V0m J0 R0m) (fun _ => rfl) rfl wm_yX11_spread wn_X11 wl_L_107 wi_yX11_spread we_yX11_spread hd_yX11_spread rfl ⟨Nat.le_of_ble_eq_true rfl, Nat.le_of_ble_eq_true rfl⟩ (Nat.le_of_ble_eq_true rfl) ⟨Nat.le_of_ble_eq_true rfl, Nat.le_of_ble_eq_true rfl⟩ dL_law_1106 (fun r50 u50 hr50 h50 => ?_)
  refine x_aload_n C.1 dL_law_1109 1 rfl ?_
  refine x_aload_n C.1 dL_law_1110 3 rfl ?_
  refine x_iload_n C.1 dL_law_1111 0 rfl ?_
  refine x_iconst C.1 (n := 1) dL_law_1112 ?_
  refine x_iadd C.1 (v := 1) (by decide) dL_law_1113 ?_
  refine x_sld C (b := b) (i := 1) hX hbl hbA (by omega) (by omega) dL_law_1114 ?_
  rw [show (1 : Int).toNat = 1 from rfl]
  refine x_aload_n C.1 dL_law_1115 3 rfl ?_
  refine x_iload_n C.1 dL_law_1116 0 rfl ?_
  refine x_iconst C.1 (n := 2) dL_law_1117 ?_
  refine x_iadd C.1 (v := 2) (by decide) dL_law_1118 ?_
  refine x_sld C (b := b) (i := 2) hX hbl hbA (by omega) (by omega) dL_law_1119 ?_
  rw [show (2 : Int).toNat = 2 from rfl]
  refine x_callVi C (As := [vI ((xs 1).toInt), vI ((xs 2).toInt)]) (rest := [vI r50]) 129 law_m vc_X12 (g_spread l D cy um V0m J0 R0m M_VR X_VJ ((xs 1).toInt) ((xs 2).toInt) (xi_r _) (xi_r _) M_76 M_78 M_tp) (l1 := XW cy ux V0x J0 R0x) (l2 := []) (List.append_nil _).symm (w2 := fun u51 : Unit => XW cy ux V0x J0 R0x ++ MW cy um V0m J0 R0m) (fun _ => List.append_nil _) rfl wm_yX12_spread wn_X12 wl_L_110 wi_yX12_spread we_yX12_spread hd_yX12_spread rfl ⟨Nat.le_of_ble_eq_true rfl, Nat.le_of_ble_eq_true rfl⟩ (Nat.le_of_ble_eq_true rfl) ⟨Nat.le_of_ble_eq_true rfl, Nat.le_of_ble_eq_true rfl⟩ dL_law_1120 (fun r51 u51 hr51 h51 => ?_)
  refine x_icmp_eq_t C.1 (tgt := 1504) dL_law_1123 (by decide) hr50 hr51 (by omega) ?_
  refine x_iinc C.1 (v := 6) (lv' := [(3, vI 6), (2, .ref (um 0)), (1, .ref (ux 0)), (0, .ref b)]) (by decide) dL_law_1504 0 rfl (by decide) rfl ?_
  refine x_goto C.1 (tgt := 18) dL_law_1507 (by decide) ?_
  refine x_iload_n C.1 dL_law_18 0 rfl ?_
  refine x_aload_n C.1 dL_law_19 3 rfl ?_
  refine x_slen C (b := b) hX hbl hbA dL_law_20 ?_
  refine x_bipush C.1 (n := 6) dL_law_21 ?_
  refine x_isub C.1 rfl dL_law_23 ?_
  refine x_icmp_gt_t C.1 (tgt := 1510) dL_law_24 (by decide) (by decide) (by omega) (by omega) ?_
  refine x_iconst C.1 (n := 1) dL_law_1510 ?_
  exact x_lend C hr dL_law_1511 (Nat.le_of_ble_eq_true rfl) (Nat.le_of_ble_eq_true rfl)
set_option maxHeartbeats 4000000 in
set_option maxRecDepth 100000 in
theorem law_case_22 {p : Program} {e : Env} {s : State} {m : MethodId} {below : List Frame} {meth : Method} {c : Code} (l : Launch) (D : va_G) (cy : Nat → ClassId) {b L : Nat} {xs : Nat → Int32} (C : xC2 p s m #[Value.ref b] meth c D (fun q => s.heap.size ≤ q) s.heap 4 code RL (xTY cy)) (hr : meth.sig.returnType = ret) (hX : va_X b L xs s s.heap) (hbl : b < s.heap.size) (hbA : ¬ (fun q : Nat => s.heap.size ≤ q) b) (hL6 : L = 6) (ux um : Nat → Nat) (cs : Nat × Nat) (hcs : cs = (162, 8366)) : xW p l e room_1 s m #[Value.ref b] below meth c D (fun q => s.heap.size ≤ q) s.heap 4 cs.1 cs.2 (lw_Z below #[Value.ref b] s) (XW cy ux V0x J0 R0x ++ MW cy um V0m J0 R0m) 1128 [(3, vI 0), (2, .ref (um 0)), (1, .ref (ux 0)), (0, .ref b)] [] := by
  subst hcs
  refine x_aload_n C.1 dL_law_1128 2 rfl ?_
  refine x_aload_n C.1 dL_law_1129 3 rfl ?_
  refine x_iload_n C.1 dL_law_1130 0 rfl ?_
  refine x_iconst C.1 (n := 1) dL_law_1131 ?_
  refine x_iadd C.1 (v := 1) (by decide) dL_law_1132 ?_
  refine x_sld C (b := b) (i := 1) hX hbl hbA (by omega) (by omega) dL_law_1133 ?_
  rw [show (1 : Int).toNat = 1 from rfl]
  refine x_aload_n C.1 dL_law_1134 3 rfl ?_
  refine x_iload_n C.1 dL_law_1135 0 rfl ?_
  refine x_iconst C.1 (n := 2) dL_law_1136 ?_
  refine x_iadd C.1 (v := 2) (by decide) dL_law_1137 ?_
  refine x_sld C (b := b) (i := 2) hX hbl hbA (by omega) (by omega) dL_law_1138 ?_
  rw [show (2 : Int).toNat = 2 from rfl]
  refine x_aload_n C.1 dL_law_1139 3 rfl ?_
  refine x_iload_n C.1 dL_law_1140 0 rfl ?_
  refine x_iconst C.1 (n := 3) dL_law_1141 ?_
  refine x_iadd C.1 (v := 3) (by decide) dL_law_1142 ?_
  refine x_sld C (b := b) (i := 3) hX hbl hbA (by omega) (by omega) dL_law_1143 ?_
  rw [show (3 : Int).toNat = 3 from rfl]
  refine x_callVl C (As := [vI ((xs 1).toInt), vI ((xs 2).toInt), vI ((xs 3).toInt)]) (rest := []) 0 law_x vc_X11 (f_comes l D cy ux V0x J0 R0x X_VR X_VJ ((xs 1).toInt) ((xs 2).toInt) ((xs 3).toInt) (xi_r _) (xi_r _) (xi_r _) X_np X_ne X_tl) (l1 := []) (l2 := MW cy um V0m J0 R0m) rfl (w2 := fun u52 => XW cy ux V0x J0 R0x ++ MW cy um V0m J0 R0m) (fun _ => rfl) rfl wm_yX11_comes wn_X11 wl_L_111 wi_yX11_comes we_yX11_comes hd_yX11_comes rfl ⟨Nat.le_of_ble_eq_true rfl, Nat.le_of_ble_eq_true rfl⟩ (Nat.le_of_ble_eq_true rfl) ⟨Nat.le_of_ble_eq_true rfl, Nat.le_of_ble_eq_true rfl⟩ dL_law_1144 (fun r52 u52 hr52 h52 => ?_)
  refine x_aload_n C.1 dL_law_1147 1 rfl ?_
  refine x_aload_n C.1 dL_law_1148 3 rfl ?_
  refine x_iload_n C.1 dL_law_1149 0 rfl ?_
  refine x_iconst C.1 (n := 1) dL_law_1150 ?_
  refine x_iadd C.1 (v := 1) (by decide) dL_law_1151 ?_
  refine x_sld C (b := b) (i := 1) hX hbl hbA (by omega) (by omega) dL_law_1152 ?_
  rw [show (1 : Int).toNat = 1 from rfl]
  refine x_aload_n C.1 dL_law_1153 3 rfl ?_
  refine x_iload_n C.1 dL_law_1154 0 rfl ?_
  refine x_iconst C.1 (n := 2) dL_law_1155 ?_
  refine x_iadd C.1 (v := 2) (by decide) dL_law_1156 ?_
  refine x_sld C (b := b) (i := 2) hX hbl hbA (by omega) (by omega) dL_law_1157 ?_
  rw [show (2 : Int).toNat = 2 from rfl]
  refine x_aload_n C.1 dL_law_1158 3 rfl ?_
  refine x_iload_n C.1 dL_law_1159 0 rfl ?_
  refine x_iconst C.1 (n := 3) dL_law_1160 ?_
  refine x_iadd C.1 (v := 3) (by decide) dL_law_1161 ?_
  refine x_sld C (b := b) (i := 3) hX hbl hbA (by omega) (by omega) dL_law_1162 ?_
  rw [show (3 : Int).toNat = 3 from rfl]
  refine x_callVl C (As := [vI ((xs 1).toInt), vI ((xs 2).toInt), vI ((xs 3).toInt)]) (rest := [vJ r52]) 129 law_m vc_X12 (g_comes l D cy um V0m J0 R0m M_VR X_VJ ((xs 1).toInt) ((xs 2).toInt) ((xs 3).toInt) (xi_r _) (xi_r _) (xi_r _) M_76 M_78 M_tp) (l1 := XW cy ux V0x J0 R0x) (l2 := []) (List.append_nil _).symm (w2 := fun u53 : Unit => XW cy ux V0x J0 R0x ++ MW cy um V0m J0 R0m) (fun _ => List.append_nil _) rfl wm_yX12_comes wn_X12 wl_L_115 wi_yX12_comes we_yX12_comes hd_yX12_comes rfl ⟨Nat.le_of_ble_eq_true rfl, Nat.le_of_ble_eq_true rfl⟩ (Nat.le_of_ble_eq_true rfl) ⟨Nat.le_of_ble_eq_true rfl, Nat.le_of_ble_eq_true rfl⟩ dL_law_1163 (fun r53 u53 hr53 h53 => ?_)
  refine x_lcmp C.1 (v := 0) ((lcI_eq _ _).mpr (by omega)) dL_law_1166 hr52 hr53 ?_
  refine x_if_eq_t C.1 (tgt := 1504) dL_law_1167 (by decide) (by decide) rfl ?_
  refine x_iinc C.1 (v := 6) (lv' := [(3, vI 6), (2, .ref (um 0)), (1, .ref (ux 0)), (0, .ref b)]) (by decide) dL_law_1504 0 rfl (by decide) rfl ?_
  refine x_goto C.1 (tgt := 18) dL_law_1507 (by decide) ?_
  refine x_iload_n C.1 dL_law_18 0 rfl ?_
  refine x_aload_n C.1 dL_law_19 3 rfl ?_
  refine x_slen C (b := b) hX hbl hbA dL_law_20 ?_
  refine x_bipush C.1 (n := 6) dL_law_21 ?_
  refine x_isub C.1 rfl dL_law_23 ?_
  refine x_icmp_gt_t C.1 (tgt := 1510) dL_law_24 (by decide) (by decide) (by omega) (by omega) ?_
  refine x_iconst C.1 (n := 1) dL_law_1510 ?_
  exact x_lend C hr dL_law_1511 (Nat.le_of_ble_eq_true rfl) (Nat.le_of_ble_eq_true rfl)
set_option maxHeartbeats 4000000 in
set_option maxRecDepth 100000 in
theorem law_case_23 {p : Program} {e : Env} {s : State} {m : MethodId} {below : List Frame} {meth : Method} {c : Code} (l : Launch) (D : va_G) (cy : Nat → ClassId) {b L : Nat} {xs : Nat → Int32} (C : xC2 p s m #[Value.ref b] meth c D (fun q => s.heap.size ≤ q) s.heap 4 code RL (xTY cy)) (hr : meth.sig.returnType = ret) (hX : va_X b L xs s s.heap) (hbl : b < s.heap.size) (hbA : ¬ (fun q : Nat => s.heap.size ≤ q) b) (hL6 : L = 6) (ux um : Nat → Nat) (cs : Nat × Nat) (hcs : cs = (162, 8366)) : xW p l e room_1 s m #[Value.ref b] below meth c D (fun q => s.heap.size ≤ q) s.heap 4 cs.1 cs.2 (lw_Z below #[Value.ref b] s) (XW cy ux V0x J0 R0x ++ MW cy um V0m J0 R0m) 1172 [(3, vI 0), (2, .ref (um 0)), (1, .ref (ux 0)), (0, .ref b)] [] := by
  subst hcs
  refine x_aload_n C.1 dL_law_1172 2 rfl ?_
  refine x_aload_n C.1 dL_law_1173 3 rfl ?_
  refine x_iload_n C.1 dL_law_1174 0 rfl ?_
  refine x_iconst C.1 (n := 1) dL_law_1175 ?_
  refine x_iadd C.1 (v := 1) (by decide) dL_law_1176 ?_
  refine x_sld C (b := b) (i := 1) hX hbl hbA (by omega) (by omega) dL_law_1177 ?_
  rw [show (1 : Int).toNat = 1 from rfl]
  refine x_aload_n C.1 dL_law_1178 3 rfl ?_
  refine x_iload_n C.1 dL_law_1179 0 rfl ?_
  refine x_iconst C.1 (n := 2) dL_law_1180 ?_
  refine x_iadd C.1 (v := 2) (by decide) dL_law_1181 ?_
  refine x_sld C (b := b) (i := 2) hX hbl hbA (by omega) (by omega) dL_law_1182 ?_
  rw [show (2 : Int).toNat = 2 from rfl]
  refine x_callVi C (As := [vI ((xs 1).toInt), vI ((xs 2).toInt)]) (rest := []) 0 law_x vc_X11 (f_share l D cy ux V0x J0 R0x X_VR X_VJ ((xs 1).toInt) ((xs 2).toInt) (xi_r _) (xi_r _) X_np X_ne X_tl X_gv) (l1 := []) (l2 := MW cy um V0m J0 R0m) rfl (w2 := fun u54 => XW cy ux V0x J0 R0x ++ MW cy um V0m J0 R0m) (fun _ => rfl) rfl wm_yX11_share wn_X11 wl_L_116 wi_yX11_share we_yX11_share hd_yX11_share rfl ⟨Nat.le_of_ble_eq_true rfl, Nat.le_of_ble_eq_true rfl⟩ (Nat.le_of_ble_eq_true rfl) ⟨Nat.le_of_ble_eq_true rfl, Nat.le_of_ble_eq_true rfl⟩ dL_law_1183 (fun r54 u54 hr54 h54 => ?_)
  refine x_aload_n C.1 dL_law_1186 1 rfl ?_
  refine x_aload_n C.1 dL_law_1187 3 rfl ?_
  refine x_iload_n C.1 dL_law_1188 0 rfl ?_
  refine x_iconst C.1 (n := 1) dL_law_1189 ?_
  refine x_iadd C.1 (v := 1) (by decide) dL_law_1190 ?_
  refine x_sld C (b := b) (i := 1) hX hbl hbA (by omega) (by omega) dL_law_1191 ?_
  rw [show (1 : Int).toNat = 1 from rfl]
  refine x_aload_n C.1 dL_law_1192 3 rfl ?_
  refine x_iload_n C.1 dL_law_1193 0 rfl ?_
  refine x_iconst C.1 (n := 2) dL_law_1194 ?_
  refine x_iadd C.1 (v := 2) (by decide) dL_law_1195 ?_
  refine x_sld C (b := b) (i := 2) hX hbl hbA (by omega) (by omega) dL_law_1196 ?_
  rw [show (2 : Int).toNat = 2 from rfl]
  refine x_callVi C (As := [vI ((xs 1).toInt), vI ((xs 2).toInt)]) (rest := [vI r54]) 129 law_m vc_X12 (g_share l D cy um V0m J0 R0m M_VR X_VJ ((xs 1).toInt) ((xs 2).toInt) (xi_r _) (xi_r _) M_76 M_78 M_tp) (l1 := XW cy ux V0x J0 R0x) (l2 := []) (List.append_nil _).symm (w2 := fun u55 : Unit => XW cy ux V0x J0 R0x ++ MW cy um V0m J0 R0m) (fun _ => List.append_nil _) rfl wm_yX12_share wn_X12 wl_L_119 wi_yX12_share we_yX12_share hd_yX12_share rfl ⟨Nat.le_of_ble_eq_true rfl, Nat.le_of_ble_eq_true rfl⟩ (Nat.le_of_ble_eq_true rfl) ⟨Nat.le_of_ble_eq_true rfl, Nat.le_of_ble_eq_true rfl⟩ dL_law_1197 (fun r55 u55 hr55 h55 => ?_)
  refine x_icmp_eq_t C.1 (tgt := 1504) dL_law_1200 (by decide) hr54 hr55 (by omega) ?_
  refine x_iinc C.1 (v := 6) (lv' := [(3, vI 6), (2, .ref (um 0)), (1, .ref (ux 0)), (0, .ref b)]) (by decide) dL_law_1504 0 rfl (by decide) rfl ?_
  refine x_goto C.1 (tgt := 18) dL_law_1507 (by decide) ?_
  refine x_iload_n C.1 dL_law_18 0 rfl ?_
  refine x_aload_n C.1 dL_law_19 3 rfl ?_
  refine x_slen C (b := b) hX hbl hbA dL_law_20 ?_
  refine x_bipush C.1 (n := 6) dL_law_21 ?_
  refine x_isub C.1 rfl dL_law_23 ?_
  refine x_icmp_gt_t C.1 (tgt := 1510) dL_law_24 (by decide) (by decide) (by omega) (by omega) ?_
  refine x_iconst C.1 (n := 1) dL_law_1510 ?_
  exact x_lend C hr dL_law_1511 (Nat.le_of_ble_eq_true rfl) (Nat.le_of_ble_eq_true rfl)
set_option maxHeartbeats 4000000 in
set_option maxRecDepth 100000 in
theorem law_case_24 {p : Program} {e : Env} {s : State} {m : MethodId} {below : List Frame} {meth : Method} {c : Code} (l : Launch) (D : va_G) (cy : Nat → ClassId) {b L : Nat} {xs : Nat → Int32} (C : xC2 p s m #[Value.ref b] meth c D (fun q => s.heap.size ≤ q) s.heap 4 code RL (xTY cy)) (hr : meth.sig.returnType = ret) (hX : va_X b L xs s s.heap) (hbl : b < s.heap.size) (hbA : ¬ (fun q : Nat => s.heap.size ≤ q) b) (hL6 : L = 6) (ux um : Nat → Nat) (cs : Nat × Nat) (hcs : cs = (162, 8366)) : xW p l e room_1 s m #[Value.ref b] below meth c D (fun q => s.heap.size ≤ q) s.heap 4 cs.1 cs.2 (lw_Z below #[Value.ref b] s) (XW cy ux V0x J0 R0x ++ MW cy um V0m J0 R0m) 1205 [(3, vI 0), (2, .ref (um 0)), (1, .ref (ux 0)), (0, .ref b)] [] := by
  subst hcs
  refine x_aload_n C.1 dL_law_1205 2 rfl ?_
  refine x_aload_n C.1 dL_law_1206 3 rfl ?_
  refine x_iload_n C.1 dL_law_1207 0 rfl ?_
  refine x_iconst C.1 (n := 1) dL_law_1208 ?_
  refine x_iadd C.1 (v := 1) (by decide) dL_law_1209 ?_
  refine x_sld C (b := b) (i := 1) hX hbl hbA (by omega) (by omega) dL_law_1210 ?_
  rw [show (1 : Int).toNat = 1 from rfl]
  refine x_aload_n C.1 dL_law_1211 3 rfl ?_
  refine x_iload_n C.1 dL_law_1212 0 rfl ?_
  refine x_iconst C.1 (n := 2) dL_law_1213 ?_
  refine x_iadd C.1 (v := 2) (by decide) dL_law_1214 ?_
  refine x_sld C (b := b) (i := 2) hX hbl hbA (by omega) (by omega) dL_law_1215 ?_
  rw [show (2 : Int).toNat = 2 from rfl]
  refine x_aload_n C.1 dL_law_1216 3 rfl ?_
  refine x_iload_n C.1 dL_law_1217 0 rfl ?_
  refine x_iconst C.1 (n := 3) dL_law_1218 ?_
  refine x_iadd C.1 (v := 3) (by decide) dL_law_1219 ?_
  refine x_sld C (b := b) (i := 3) hX hbl hbA (by omega) (by omega) dL_law_1220 ?_
  rw [show (3 : Int).toNat = 3 from rfl]
  refine x_callVi C (As := [vI ((xs 1).toInt), vI ((xs 2).toInt), vI ((xs 3).toInt)]) (rest := []) 0 law_x vc_X11 (f_rota l D cy ux V0x J0 R0x X_VR X_VJ ((xs 1).toInt) ((xs 2).toInt) ((xs 3).toInt) (xi_r _) (xi_r _) (xi_r _) X_np X_ne X_tl) (l1 := []) (l2 := MW cy um V0m J0 R0m) rfl (w2 := fun u56 => XW cy ux V0x J0 R0x ++ MW cy um V0m J0 R0m) (fun _ => rfl) rfl wm_yX11_rota wn_X11 wl_L_120 wi_yX11_rota we_yX11_rota hd_yX11_rota rfl ⟨Nat.le_of_ble_eq_true rfl, Nat.le_of_ble_eq_true rfl⟩ (Nat.le_of_ble_eq_true rfl) ⟨Nat.le_of_ble_eq_true rfl, Nat.le_of_ble_eq_true rfl⟩ dL_law_1221 (fun r56 u56 hr56 h56 => ?_)
  refine x_aload_n C.1 dL_law_1224 1 rfl ?_
  refine x_aload_n C.1 dL_law_1225 3 rfl ?_
  refine x_iload_n C.1 dL_law_1226 0 rfl ?_
  refine x_iconst C.1 (n := 1) dL_law_1227 ?_
  refine x_iadd C.1 (v := 1) (by decide) dL_law_1228 ?_
  refine x_sld C (b := b) (i := 1) hX hbl hbA (by omega) (by omega) dL_law_1229 ?_
  rw [show (1 : Int).toNat = 1 from rfl]
  refine x_aload_n C.1 dL_law_1230 3 rfl ?_
  refine x_iload_n C.1 dL_law_1231 0 rfl ?_
  refine x_iconst C.1 (n := 2) dL_law_1232 ?_
  refine x_iadd C.1 (v := 2) (by decide) dL_law_1233 ?_
  refine x_sld C (b := b) (i := 2) hX hbl hbA (by omega) (by omega) dL_law_1234 ?_
  rw [show (2 : Int).toNat = 2 from rfl]
  refine x_aload_n C.1 dL_law_1235 3 rfl ?_
  refine x_iload_n C.1 dL_law_1236 0 rfl ?_
  refine x_iconst C.1 (n := 3) dL_law_1237 ?_
  refine x_iadd C.1 (v := 3) (by decide) dL_law_1238 ?_
  refine x_sld C (b := b) (i := 3) hX hbl hbA (by omega) (by omega) dL_law_1239 ?_
  rw [show (3 : Int).toNat = 3 from rfl]
  refine x_callVi C (As := [vI ((xs 1).toInt), vI ((xs 2).toInt), vI ((xs 3).toInt)]) (rest := [vI r56]) 129 law_m vc_X12 (g_rota l D cy um V0m J0 R0m M_VR X_VJ ((xs 1).toInt) ((xs 2).toInt) ((xs 3).toInt) (xi_r _) (xi_r _) (xi_r _) M_76 M_78 M_tp) (l1 := XW cy ux V0x J0 R0x) (l2 := []) (List.append_nil _).symm (w2 := fun u57 : Unit => XW cy ux V0x J0 R0x ++ MW cy um V0m J0 R0m) (fun _ => List.append_nil _) rfl wm_yX12_rota wn_X12 wl_L_123 wi_yX12_rota we_yX12_rota hd_yX12_rota rfl ⟨Nat.le_of_ble_eq_true rfl, Nat.le_of_ble_eq_true rfl⟩ (Nat.le_of_ble_eq_true rfl) ⟨Nat.le_of_ble_eq_true rfl, Nat.le_of_ble_eq_true rfl⟩ dL_law_1240 (fun r57 u57 hr57 h57 => ?_)
  refine x_icmp_eq_t C.1 (tgt := 1504) dL_law_1243 (by decide) hr56 hr57 (by omega) ?_
  refine x_iinc C.1 (v := 6) (lv' := [(3, vI 6), (2, .ref (um 0)), (1, .ref (ux 0)), (0, .ref b)]) (by decide) dL_law_1504 0 rfl (by decide) rfl ?_
  refine x_goto C.1 (tgt := 18) dL_law_1507 (by decide) ?_
  refine x_iload_n C.1 dL_law_18 0 rfl ?_
  refine x_aload_n C.1 dL_law_19 3 rfl ?_
  refine x_slen C (b := b) hX hbl hbA dL_law_20 ?_
  refine x_bipush C.1 (n := 6) dL_law_21 ?_
  refine x_isub C.1 rfl dL_law_23 ?_
  refine x_icmp_gt_t C.1 (tgt := 1510) dL_law_24 (by decide) (by decide) (by omega) (by omega) ?_
  refine x_iconst C.1 (n := 1) dL_law_1510 ?_
  exact x_lend C hr dL_law_1511 (Nat.le_of_ble_eq_true rfl) (Nat.le_of_ble_eq_true rfl)
set_option maxHeartbeats 4000000 in
set_option maxRecDepth 100000 in
theorem law_case_25 {p : Program} {e : Env} {s : State} {m : MethodId} {below : List Frame} {meth : Method} {c : Code} (l : Launch) (D : va_G) (cy : Nat → ClassId) {b L : Nat} {xs : Nat → Int32} (C : xC2 p s m #[Value.ref b] meth c D (fun q => s.heap.size ≤ q) s.heap 4 code RL (xTY cy)) (hr : meth.sig.returnType = ret) (hX : va_X b L xs s s.heap) (hbl : b < s.heap.size) (hbA : ¬ (fun q : Nat => s.heap.size ≤ q) b) (hL6 : L = 6) (ux um : Nat → Nat) (cs : Nat × Nat) (hcs : cs = (162, 8366)) : xW p l e room_1 s m #[Value.ref b] below meth c D (fun q => s.heap.size ≤ q) s.heap 4 cs.1 cs.2 (lw_Z below #[Value.ref b] s) (XW cy ux V0x J0 R0x ++ MW cy um V0m J0 R0m) 1248 [(3, vI 0), (2, .ref (um 0)), (1, .ref (ux 0)), (0, .ref b)] [] := by
  subst hcs
  refine x_aload_n C.1 dL_law_1248 2 rfl ?_
  refine x_aload_n C.1 dL_law_1249 3 rfl ?_
  refine x_iload_n C.1 dL_law_1250 0 rfl ?_
  refine x_iconst C.1 (n := 1) dL_law_1251 ?_
  refine x_iadd C.1 (v := 1) (by decide) dL_law_1252 ?_
  refine x_sld C (b := b) (i := 1) hX hbl hbA (by omega) (by omega) dL_law_1253 ?_
  rw [show (1 : Int).toNat = 1 from rfl]
  refine x_aload_n C.1 dL_law_1254 3 rfl ?_
  refine x_iload_n C.1 dL_law_1255 0 rfl ?_
  refine x_iconst C.1 (n := 2) dL_law_1256 ?_
  refine x_iadd C.1 (v := 2) (by decide) dL_law_1257 ?_
  refine x_sld C (b := b) (i := 2) hX hbl hbA (by omega) (by omega) dL_law_1258 ?_
  rw [show (2 : Int).toNat = 2 from rfl]
  refine x_callVi C (As := [vI ((xs 1).toInt), vI ((xs 2).toInt)]) (rest := []) 0 law_x vc_X11 (f_alone l D cy ux V0x J0 R0x X_VR X_VJ ((xs 1).toInt) ((xs 2).toInt) (xi_r _) (xi_r _) X_np X_ne X_tl X_cl X_lw X_co X_wo) (l1 := []) (l2 := MW cy um V0m J0 R0m) rfl (w2 := fun u58 => XW cy ux u58.1 u58.2.1 u58.2.2 ++ MW cy um V0m J0 R0m) (fun _ => rfl) rfl wm_yX11_alone wn_X11 wl_L_124 wi_yX11_alone we_yX11_alone hd_yX11_alone rfl ⟨Nat.le_of_ble_eq_true rfl, Nat.le_of_ble_eq_true rfl⟩ (Nat.le_of_ble_eq_true rfl) ⟨Nat.le_of_ble_eq_true rfl, Nat.le_of_ble_eq_true rfl⟩ dL_law_1259 (fun r58 u58 hr58 h58 => ?_)
  refine x_aload_n C.1 dL_law_1262 1 rfl ?_
  refine x_aload_n C.1 dL_law_1263 3 rfl ?_
  refine x_iload_n C.1 dL_law_1264 0 rfl ?_
  refine x_iconst C.1 (n := 1) dL_law_1265 ?_
  refine x_iadd C.1 (v := 1) (by decide) dL_law_1266 ?_
  refine x_sld C (b := b) (i := 1) hX hbl hbA (by omega) (by omega) dL_law_1267 ?_
  rw [show (1 : Int).toNat = 1 from rfl]
  refine x_aload_n C.1 dL_law_1268 3 rfl ?_
  refine x_iload_n C.1 dL_law_1269 0 rfl ?_
  refine x_iconst C.1 (n := 2) dL_law_1270 ?_
  refine x_iadd C.1 (v := 2) (by decide) dL_law_1271 ?_
  refine x_sld C (b := b) (i := 2) hX hbl hbA (by omega) (by omega) dL_law_1272 ?_
  rw [show (2 : Int).toNat = 2 from rfl]
  refine x_callVi C (As := [vI ((xs 1).toInt), vI ((xs 2).toInt)]) (rest := [vI r58]) 129 law_m vc_X12 (g_alone l D cy um V0m J0 R0m M_VR X_VJ ((xs 1).toInt) ((xs 2).toInt) (xi_r _) (xi_r _) M_76 M_78 M_tp M_cm M_co M_wo) (l1 := XW cy ux u58.1 u58.2.1 u58.2.2) (l2 := []) (List.append_nil _).symm (w2 := fun u59 : xS => XW cy ux u58.1 u58.2.1 u58.2.2 ++ MW cy um u59.1 u59.2.1 u59.2.2) (fun _ => List.append_nil _) rfl wm_yX12_alone wn_X12 wl_L_127 wi_yX12_alone we_yX12_alone hd_yX12_alone rfl ⟨Nat.le_of_ble_eq_true rfl, Nat.le_of_ble_eq_true rfl⟩ (Nat.le_of_ble_eq_true rfl) ⟨Nat.le_of_ble_eq_true rfl, Nat.le_of_ble_eq_true rfl⟩ dL_law_1273 (fun r59 u59 hr59 h59 => ?_)
  refine x_icmp_eq_t C.1 (tgt := 1504) dL_law_1276 (by decide) hr58 hr59 (by omega) ?_
  refine x_iinc C.1 (v := 6) (lv' := [(3, vI 6), (2, .ref (um 0)), (1, .ref (ux 0)), (0, .ref b)]) (by decide) dL_law_1504 0 rfl (by decide) rfl ?_
  refine x_goto C.1 (tgt := 18) dL_law_1507 (by decide) ?_
  refine x_iload_n C.1 dL_law_18 0 rfl ?_
  refine x_aload_n C.1 dL_law_19 3 rfl ?_
  refine x_slen C (b := b) hX hbl hbA dL_law_20 ?_
  refine x_bipush C.1 (n := 6) dL_law_21 ?_
  refine x_isub C.1 rfl dL_law_23 ?_
  refine x_icmp_gt_t C.1 (tgt := 1510) dL_law_24 (by decide) (by decide) (by omega) (by omega) ?_
  refine x_iconst C.1 (n := 1) dL_law_1510 ?_
  exact x_lend C hr dL_law_1511 (Nat.le_of_ble_eq_true rfl) (Nat.le_of_ble_eq_true rfl)
set_option maxHeartbeats 4000000 in
set_option maxRecDepth 100000 in
theorem law_case_26 {p : Program} {e : Env} {s : State} {m : MethodId} {below : List Frame} {meth : Method} {c : Code} (l : Launch) (D : va_G) (cy : Nat → ClassId) {b L : Nat} {xs : Nat → Int32} (C : xC2 p s m #[Value.ref b] meth c D (fun q => s.heap.size ≤ q) s.heap 4 code RL (xTY cy)) (hr : meth.sig.returnType = ret) (hX : va_X b L xs s s.heap) (hbl : b < s.heap.size) (hbA : ¬ (fun q : Nat => s.heap.size ≤ q) b) (hL6 : L = 6) (ux um : Nat → Nat) (cs : Nat × Nat) (hcs : cs = (162, 8366)) : xW p l e room_1 s m #[Value.ref b] below meth c D (fun q => s.heap.size ≤ q) s.heap 4 cs.1 cs.2 (lw_Z below #[Value.ref b] s) (XW cy ux V0x J0 R0x ++ MW cy um V0m J0 R0m) 1281 [(3, vI 0), (2, .ref (um 0)), (1, .ref (ux 0)), (0, .ref b)] [] := by
  subst hcs
  refine x_aload_n C.1 dL_law_1281 2 rfl ?_
  refine x_aload_n C.1 dL_law_1282 3 rfl ?_
  refine x_iload_n C.1 dL_law_1283 0 rfl ?_
  refine x_iconst C.1 (n := 1) dL_law_1284 ?_
  refine x_iadd C.1 (v := 1) (by decide) dL_law_1285 ?_
  refine x_sld C (b := b) (i := 1) hX hbl hbA (by omega) (by omega) dL_law_1286 ?_
  rw [show (1 : Int).toNat = 1 from rfl]
  refine x_aload_n C.1 dL_law_1287 3 rfl ?_
  refine x_iload_n C.1 dL_law_1288 0 rfl ?_
  refine x_iconst C.1 (n := 2) dL_law_1289 ?_
  refine x_iadd C.1 (v := 2) (by decide) dL_law_1290 ?_
  refine x_sld C (b := b) (i := 2) hX hbl hbA (by omega) (by omega) dL_law_1291 ?_
  rw [show (2 : Int).toNat = 2 from rfl]
  refine x_aload_n C.1 dL_law_1292 3 rfl ?_
  refine x_iload_n C.1 dL_law_1293 0 rfl ?_
  refine x_iconst C.1 (n := 3) dL_law_1294 ?_
  refine x_iadd C.1 (v := 3) (by decide) dL_law_1295 ?_
  refine x_sld C (b := b) (i := 3) hX hbl hbA (by omega) (by omega) dL_law_1296 ?_
  rw [show (3 : Int).toNat = 3 from rfl]
  refine x_aload_n C.1 dL_law_1297 3 rfl ?_
  refine x_iload_n C.1 dL_law_1298 0 rfl ?_
  refine x_iconst C.1 (n := 4) dL_law_1299 ?_
  refine x_iadd C.1 (v := 4) (by decide) dL_law_1300 ?_
  refine x_sld C (b := b) (i := 4) hX hbl hbA (by omega) (by omega) dL_law_1301 ?_
  rw [show (4 : Int).toNat = 4 from rfl]
  refine x_aload_n C.1 dL_law_1302 3 rfl ?_
  refine x_iload_n C.1 dL_law_1303 0 rfl ?_
  refine x_iconst C.1 (n := 5) dL_law_1304 ?_
  refine x_iadd C.1 (v := 5) (by decide) dL_law_1305 ?_
  refine x_sld C (b := b) (i := 5) hX hbl hbA (by omega) (by omega) dL_law_1306 ?_
  rw [show (5 : Int).toNat = 5 from rfl]
  refine x_callVl C (As := [vI ((xs 1).toInt), vI ((xs 2).toInt), vI ((xs 3).toInt), vI ((xs 4).toInt), vI ((xs 5).toInt)]) (rest := []) 0 law_x vc_X11 (f_whoDid l D cy ux V0x J0 R0x X_VR X_VJ ((xs 1).toInt) ((xs 2).toInt) ((xs 3).toInt) ((xs 4).toInt) ((xs 5).toInt) (xi_r _) (xi_r _) (xi_r _) (xi_r _) (xi_r _) X_np X_ne X_tl) (l1 := []) (l2 := MW cy um V0m J0 R0m) rfl (w2 := fun u60 => XW cy ux V0x J0 R0x ++ MW cy um V0m J0 R0m) (fun _ => rfl) rfl wm_yX11_whoDid wn_X11 wl_L_128 wi_yX11_whoDid we_yX11_whoDid hd_yX11_whoDid rfl ⟨Nat.le_of_ble_eq_true rfl, Nat.le_of_ble_eq_true rfl⟩ (Nat.le_of_ble_eq_true rfl) ⟨Nat.le_of_ble_eq_true rfl, Nat.le_of_ble_eq_true rfl⟩ dL_law_1307 (fun r60 u60 hr60 h60 => ?_)
  refine x_aload_n C.1 dL_law_1310 1 rfl ?_
  refine x_aload_n C.1 dL_law_1311 3 rfl ?_
  refine x_iload_n C.1 dL_law_1312 0 rfl ?_
  refine x_iconst C.1 (n := 1) dL_law_1313 ?_
  refine x_iadd C.1 (v := 1) (by decide) dL_law_1314 ?_
  refine x_sld C (b := b) (i := 1) hX hbl hbA (by omega) (by omega) dL_law_1315 ?_
  rw [show (1 : Int).toNat = 1 from rfl]
  refine x_aload_n C.1 dL_law_1316 3 rfl ?_
  refine x_iload_n C.1 dL_law_1317 0 rfl ?_
  refine x_iconst C.1 (n := 2) dL_law_1318 ?_
  refine x_iadd C.1 (v := 2) (by decide) dL_law_1319 ?_
  refine x_sld C (b := b) (i := 2) hX hbl hbA (by omega) (by omega) dL_law_1320 ?_
  rw [show (2 : Int).toNat = 2 from rfl]
  refine x_aload_n C.1 dL_law_1321 3 rfl ?_
  refine x_iload_n C.1 dL_law_1322 0 rfl ?_
  refine x_iconst C.1 (n := 3) dL_law_1323 ?_
  refine x_iadd C.1 (v := 3) (by decide) dL_law_1324 ?_
  refine x_sld C (b := b) (i := 3) hX hbl hbA (by omega) (by omega) dL_law_1325 ?_
  rw [show (3 : Int).toNat = 3 from rfl]
  refine x_aload_n C.1 dL_law_1326 3 rfl ?_
  refine x_iload_n C.1 dL_law_1327 0 rfl ?_
  refine x_iconst C.1 (n := 4) dL_law_1328 ?_
  refine x_iadd C.1 (v := 4) (by decide) dL_law_1329 ?_
  refine x_sld C (b := b) (i := 4) hX hbl hbA (by omega) (by omega) dL_law_1330 ?_
  rw [show (4 : Int).toNat = 4 from rfl]
  refine x_aload_n C.1 dL_law_1331 3 rfl ?_
  refine x_iload_n C.1 dL_law_1332 0 rfl ?_
  refine x_iconst C.1 (n := 5) dL_law_1333 ?_
  refine x_iadd C.1 (v := 5) (by decide) dL_law_1334 ?_
  refine x_sld C (b := b) (i := 5) hX hbl hbA (by omega) (by omega) dL_law_1335 ?_
  rw [show (5 : Int).toNat = 5 from rfl]
  refine x_callVl C (As := [vI ((xs 1).toInt), vI ((xs 2).toInt), vI ((xs 3).toInt), vI ((xs 4).toInt), vI ((xs 5).toInt)]) (rest := [vJ r60]) 129 law_m vc_X12 (g_whoDid l D cy um V0m J0 R0m M_VR X_VJ ((xs 1).toInt) ((xs 2).toInt) ((xs 3).toInt) ((xs 4).toInt) ((xs 5).toInt) (xi_r _) (xi_r _) (xi_r _) (xi_r _) (xi_r _) M_76 M_78 M_tp) (l1 := XW cy ux V0x J0 R0x) (l2 := []) (List.append_nil _).symm (w2 := fun u61 : Unit => XW cy ux V0x J0 R0x ++ MW cy um V0m J0 R0m) (fun _ => List.append_nil _) rfl wm_yX12_whoDid wn_X12 wl_L_131 wi_yX12_whoDid we_yX12_whoDid hd_yX12_whoDid rfl ⟨Nat.le_of_ble_eq_true rfl, Nat.le_of_ble_eq_true rfl⟩ (Nat.le_of_ble_eq_true rfl) ⟨Nat.le_of_ble_eq_true rfl, Nat.le_of_ble_eq_true rfl⟩ dL_law_1336 (fun r61 u61 hr61 h61 => ?_)
  refine x_lcmp C.1 (v := 0) ((lcI_eq _ _).mpr (by omega)) dL_law_1339 hr60 hr61 ?_
  refine x_if_eq_t C.1 (tgt := 1504) dL_law_1340 (by decide) (by decide) rfl ?_
  refine x_iinc C.1 (v := 6) (lv' := [(3, vI 6), (2, .ref (um 0)), (1, .ref (ux 0)), (0, .ref b)]) (by decide) dL_law_1504 0 rfl (by decide) rfl ?_
  refine x_goto C.1 (tgt := 18) dL_law_1507 (by decide) ?_
  refine x_iload_n C.1 dL_law_18 0 rfl ?_
  refine x_aload_n C.1 dL_law_19 3 rfl ?_
  refine x_slen C (b := b) hX hbl hbA dL_law_20 ?_
  refine x_bipush C.1 (n := 6) dL_law_21 ?_
  refine x_isub C.1 rfl dL_law_23 ?_
  refine x_icmp_gt_t C.1 (tgt := 1510) dL_law_24 (by decide) (by decide) (by omega) (by omega) ?_
  refine x_iconst C.1 (n := 1) dL_law_1510 ?_
  exact x_lend C hr dL_law_1511 (Nat.le_of_ble_eq_true rfl) (Nat.le_of_ble_eq_true rfl)
set_option maxHeartbeats 4000000 in
set_option maxRecDepth 100000 in
theorem law_case_27 {p : Program} {e : Env} {s : State} {m : MethodId} {below : List Frame} {meth : Method} {c : Code} (l : Launch) (D : va_G) (cy : Nat → ClassId) {b L : Nat} {xs : Nat → Int32} (C : xC2 p s m #[Value.ref b] meth c D (fun q => s.heap.size ≤ q) s.heap 4 code RL (xTY cy)) (hr : meth.sig.returnType = ret) (hX : va_X b L xs s s.heap) (hbl : b < s.heap.size) (hbA : ¬ (fun q : Nat => s.heap.size ≤ q) b) (hL6 : L = 6) (ux um : Nat → Nat) (cs : Nat × Nat) (hcs : cs = (162, 8366)) : xW p l e room_1 s m #[Value.ref b] below meth c D (fun q => s.heap.size ≤ q) s.heap 4 cs.1 cs.2 (lw_Z below #[Value.ref b] s) (XW cy ux V0x J0 R0x ++ MW cy um V0m J0 R0m) 1345 [(3, vI 0), (2, .ref (um 0)), (1, .ref (ux 0)), (0, .ref b)] [] := by
  subst hcs
  refine x_aload_n C.1 dL_law_1345 2 rfl ?_
  refine x_aload_n C.1 dL_law_1346 3 rfl ?_
  refine x_iload_n C.1 dL_law_1347 0 rfl ?_
  refine x_iconst C.1 (n := 1) dL_law_1348 ?_
  refine x_iadd C.1 (v := 1) (by decide) dL_law_1349 ?_
  refine x_sld C (b := b) (i := 1) hX hbl hbA (by omega) (by omega) dL_law_1350 ?_
  rw [show (1 : Int).toNat = 1 from rfl]
  refine x_aload_n C.1 dL_law_1351 3 rfl ?_
  refine x_iload_n C.1 dL_law_1352 0 rfl ?_
  refine x_iconst C.1 (n := 2) dL_law_1353 ?_
  refine x_iadd C.1 (v := 2) (by decide) dL_law_1354 ?_
  refine x_sld C (b := b) (i := 2) hX hbl hbA (by omega) (by omega) dL_law_1355 ?_
  rw [show (2 : Int).toNat = 2 from rfl]
  refine x_aload_n C.1 dL_law_1356 3 rfl ?_
  refine x_iload_n C.1 dL_law_1357 0 rfl ?_
  refine x_iconst C.1 (n := 3) dL_law_1358 ?_
  refine x_iadd C.1 (v := 3) (by decide) dL_law_1359 ?_
  refine x_sld C (b := b) (i := 3) hX hbl hbA (by omega) (by omega) dL_law_1360 ?_
  rw [show (3 : Int).toNat = 3 from rfl]
  refine x_aload_n C.1 dL_law_1361 3 rfl ?_
  refine x_iload_n C.1 dL_law_1362 0 rfl ?_
  refine x_iconst C.1 (n := 4) dL_law_1363 ?_
  refine x_iadd C.1 (v := 4) (by decide) dL_law_1364 ?_
  refine x_sld C (b := b) (i := 4) hX hbl hbA (by omega) (by omega) dL_law_1365 ?_
  rw [show (4 : Int).toNat = 4 from rfl]
  refine x_callVl C (As := [vI ((xs 1).toInt), vI ((xs 2).toInt), vI ((xs 3).toInt), vI ((xs 4).toInt)]) (rest := []) 0 law_x vc_X11 (f_can l D cy ux V0x J0 R0x X_VR X_VJ ((xs 1).toInt) ((xs 2).toInt) ((xs 3).toInt) ((xs 4).toInt) (xi_r _) (xi_r _) (xi_r _) (xi_r _) X_np X_ne X_tl) (l1 := []) (l2 := MW cy um V0m J0 R0m) rfl (w2 := fun u62 => XW cy ux V0x J0 R0x ++ MW cy um V0m J0 R0m) (fun _ => rfl) rfl wm_yX11_can wn_X11 wl_L_132 wi_yX11_can we_yX11_can hd_yX11_can rfl ⟨Nat.le_of_ble_eq_true rfl, Nat.le_of_ble_eq_true rfl⟩ (Nat.le_of_ble_eq_true rfl) ⟨Nat.le_of_ble_eq_true rfl, Nat.le_of_ble_eq_true rfl⟩ dL_law_1366 (fun r62 u62 hr62 h62 => ?_)
  refine x_aload_n C.1 dL_law_1369 1 rfl ?_
  refine x_aload_n C.1 dL_law_1370 3 rfl ?_
  refine x_iload_n C.1 dL_law_1371 0 rfl ?_
  refine x_iconst C.1 (n := 1) dL_law_1372 ?_
  refine x_iadd C.1 (v := 1) (by decide) dL_law_1373 ?_
  refine x_sld C (b := b) (i := 1) hX hbl hbA (by omega) (by omega) dL_law_1374 ?_
  rw [show (1 : Int).toNat = 1 from rfl]
  refine x_aload_n C.1 dL_law_1375 3 rfl ?_
  refine x_iload_n C.1 dL_law_1376 0 rfl ?_
  refine x_iconst C.1 (n := 2) dL_law_1377 ?_
  refine x_iadd C.1 (v := 2) (by decide) dL_law_1378 ?_
  refine x_sld C (b := b) (i := 2) hX hbl hbA (by omega) (by omega) dL_law_1379 ?_
  rw [show (2 : Int).toNat = 2 from rfl]
  refine x_aload_n C.1 dL_law_1380 3 rfl ?_
  refine x_iload_n C.1 dL_law_1381 0 rfl ?_
  refine x_iconst C.1 (n := 3) dL_law_1382 ?_
  refine x_iadd C.1 (v := 3) (by decide) dL_law_1383 ?_
  refine x_sld C (b := b) (i := 3) hX hbl hbA (by omega) (by omega) dL_law_1384 ?_
  rw [show (3 : Int).toNat = 3 from rfl]
  refine x_aload_n C.1 dL_law_1385 3 rfl ?_
  refine x_iload_n C.1 dL_law_1386 0 rfl ?_
  refine x_iconst C.1 (n := 4) dL_law_1387 ?_
  refine x_iadd C.1 (v := 4) (by decide) dL_law_1388 ?_
  refine x_sld C (b := b) (i := 4) hX hbl hbA (by omega) (by omega) dL_law_1389 ?_
  rw [show (4 : Int).toNat = 4 from rfl]
  refine x_callVl C (As := [vI ((xs 1).toInt), vI ((xs 2).toInt), vI ((xs 3).toInt), vI ((xs 4).toInt)]) (rest := [vJ r62]) 129 law_m vc_X12 (g_can l D cy um V0m J0 R0m M_VR X_VJ ((xs 1).toInt) ((xs 2).toInt) ((xs 3).toInt) ((xs 4).toInt) (xi_r _) (xi_r _) (xi_r _) (xi_r _) M_76 M_78 M_tp) (l1 := XW cy ux V0x J0 R0x) (l2 := []) (List.append_nil _).symm (w2 := fun u63 : Unit => XW cy ux V0x J0 R0x ++ MW cy um V0m J0 R0m) (fun _ => List.append_nil _) rfl wm_yX12_can wn_X12 wl_L_135 wi_yX12_can we_yX12_can hd_yX12_can rfl ⟨Nat.le_of_ble_eq_true rfl, Nat.le_of_ble_eq_true rfl⟩ (Nat.le_of_ble_eq_true rfl) ⟨Nat.le_of_ble_eq_true rfl, Nat.le_of_ble_eq_true rfl⟩ dL_law_1390 (fun r63 u63 hr63 h63 => ?_)
  refine x_lcmp C.1 (v := 0) ((lcI_eq _ _).mpr (by omega)) dL_law_1393 hr62 hr63 ?_
  refine x_if_eq_t C.1 (tgt := 1504) dL_law_1394 (by decide) (by decide) rfl ?_
  refine x_iinc C.1 (v := 6) (lv' := [(3, vI 6), (2, .ref (um 0)), (1, .ref (ux 0)), (0, .ref b)]) (by decide) dL_law_1504 0 rfl (by decide) rfl ?_
  refine x_goto C.1 (tgt := 18) dL_law_1507 (by decide) ?_
  refine x_iload_n C.1 dL_law_18 0 rfl ?_
  refine x_aload_n C.1 dL_law_19 3 rfl ?_
  refine x_slen C (b := b) hX hbl hbA dL_law_20 ?_
  refine x_bipush C.1 (n := 6) dL_law_21 ?_
  refine x_isub C.1 rfl dL_law_23 ?_
  refine x_icmp_gt_t C.1 (tgt := 1510) dL_law_24 (by decide) (by decide) (by omega) (by omega) ?_
  refine x_iconst C.1 (n := 1) dL_law_1510 ?_
  exact x_lend C hr dL_law_1511 (Nat.le_of_ble_eq_true rfl) (Nat.le_of_ble_eq_true rfl)
set_option maxHeartbeats 4000000 in
set_option maxRecDepth 100000 in
theorem law_case_28 {p : Program} {e : Env} {s : State} {m : MethodId} {below : List Frame} {meth : Method} {c : Code} (l : Launch) (D : va_G) (cy : Nat → ClassId) {b L : Nat} {xs : Nat → Int32} (C : xC2 p s m #[Value.ref b] meth c D (fun q => s.heap.size ≤ q) s.heap 4 code RL (xTY cy)) (hr : meth.sig.returnType = ret) (hX : va_X b L xs s s.heap) (hbl : b < s.heap.size) (hbA : ¬ (fun q : Nat => s.heap.size ≤ q) b) (hL6 : L = 6) (ux um : Nat → Nat) (cs : Nat × Nat) (hcs : cs = (162, 8366)) : xW p l e room_1 s m #[Value.ref b] below meth c D (fun q => s.heap.size ≤ q) s.heap 4 cs.1 cs.2 (lw_Z below #[Value.ref b] s) (XW cy ux V0x J0 R0x ++ MW cy um V0m J0 R0m) 1399 [(3, vI 0), (2, .ref (um 0)), (1, .ref (ux 0)), (0, .ref b)] [] := by
  subst hcs
  refine x_aload_n C.1 dL_law_1399 2 rfl ?_
  refine x_aload_n C.1 dL_law_1400 3 rfl ?_
  refine x_iload_n C.1 dL_law_1401 0 rfl ?_
  refine x_iconst C.1 (n := 1) dL_law_1402 ?_
  refine x_iadd C.1 (v := 1) (by decide) dL_law_1403 ?_
  refine x_sld C (b := b) (i := 1) hX hbl hbA (by omega) (by omega) dL_law_1404 ?_
  rw [show (1 : Int).toNat = 1 from rfl]
  refine x_callVi C (As := [vI ((xs 1).toInt)]) (rest := []) 0 law_x vc_X11 (f_seed l D cy ux V0x J0 R0x X_VR X_VJ ((xs 1).toInt) (xi_r _) X_np X_ne X_tl) (l1 := []) (l2 := MW cy um V0m J0 R0m) rfl (w2 := fun u64 => XW cy ux u64.1 u64.2.1 u64.2.2 ++ MW cy um V0m J0 R0m) (fun _ => rfl) rfl wm_yX11_seed wn_X11 wl_L_136 wi_yX11_seed we_yX11_seed hd_yX11_seed rfl ⟨Nat.le_of_ble_eq_true rfl, Nat.le_of_ble_eq_true rfl⟩ (Nat.le_of_ble_eq_true rfl) ⟨Nat.le_of_ble_eq_true rfl, Nat.le_of_ble_eq_true rfl⟩ dL_law_1405 (fun r64 u64 hr64 h64 => ?_)
  refine x_aload_n C.1 dL_law_1408 1 rfl ?_
  refine x_aload_n C.1 dL_law_1409 3 rfl ?_
  refine x_iload_n C.1 dL_law_1410 0 rfl ?_
  refine x_iconst C.1 (n := 1) dL_law_1411 ?_
  refine x_iadd C.1 (v := 1) (by decide) dL_law_1412 ?_
  refine x_sld C (b := b) (i := 1) hX hbl hbA (by omega) (by omega) dL_law_1413 ?_
  rw [show (1 : Int).toNat = 1 from rfl]
  refine x_callVi C (As := [vI ((xs 1).toInt)]) (rest := [vI r64]) 129 law_m vc_X12 (g_seed l D cy um V0m J0 R0m M_VR X_VJ ((xs 1).toInt) (xi_r _) M_76 M_78 M_tp) (l1 := XW cy ux u64.1 u64.2.1 u64.2.2) (l2 := []) (List.append_nil _).symm (w2 := fun u65 : xS => XW cy ux u64.1 u64.2.1 u64.2.2 ++ MW cy um u65.1 u65.2.1 u65.2.2) (fun _ => List.append_nil _) rfl wm_yX12_seed wn_X12 wl_L_140 wi_yX12_seed we_yX12_seed hd_yX12_seed rfl ⟨Nat.le_of_ble_eq_true rfl, Nat.le_of_ble_eq_true rfl⟩ (Nat.le_of_ble_eq_true rfl) ⟨Nat.le_of_ble_eq_true rfl, Nat.le_of_ble_eq_true rfl⟩ dL_law_1414 (fun r65 u65 hr65 h65 => ?_)
  refine x_icmp_eq_t C.1 (tgt := 1504) dL_law_1417 (by decide) hr64 hr65 (by omega) ?_
  refine x_iinc C.1 (v := 6) (lv' := [(3, vI 6), (2, .ref (um 0)), (1, .ref (ux 0)), (0, .ref b)]) (by decide) dL_law_1504 0 rfl (by decide) rfl ?_
  refine x_goto C.1 (tgt := 18) dL_law_1507 (by decide) ?_
  refine x_iload_n C.1 dL_law_18 0 rfl ?_
  refine x_aload_n C.1 dL_law_19 3 rfl ?_
  refine x_slen C (b := b) hX hbl hbA dL_law_20 ?_
  refine x_bipush C.1 (n := 6) dL_law_21 ?_
  refine x_isub C.1 rfl dL_law_23 ?_
  refine x_icmp_gt_t C.1 (tgt := 1510) dL_law_24 (by decide) (by decide) (by omega) (by omega) ?_
  refine x_iconst C.1 (n := 1) dL_law_1510 ?_
  exact x_lend C hr dL_law_1511 (Nat.le_of_ble_eq_true rfl) (Nat.le_of_ble_eq_true rfl)
set_option maxHeartbeats 4000000 in
set_option maxRecDepth 100000 in
theorem law_case_29 {p : Program} {e : Env} {s : State} {m : MethodId} {below : List Frame} {meth : Method} {c : Code} (l : Launch) (D : va_G) (cy : Nat → ClassId) {b L : Nat} {xs : Nat → Int32} (C : xC2 p s m #[Value.ref b] meth c D (fun q => s.heap.size ≤ q) s.heap 4 code RL (xTY cy)) (hr : meth.sig.returnType = ret) (hX : va_X b L xs s s.heap) (hbl : b < s.heap.size) (hbA : ¬ (fun q : Nat => s.heap.size ≤ q) b) (hL6 : L = 6) (ux um : Nat → Nat) (cs : Nat × Nat) (hcs : cs = (162, 8366)) : xW p l e room_1 s m #[Value.ref b] below meth c D (fun q => s.heap.size ≤ q) s.heap 4 cs.1 cs.2 (lw_Z below #[Value.ref b] s) (XW cy ux V0x J0 R0x ++ MW cy um V0m J0 R0m) 1422 [(3, vI 0), (2, .ref (um 0)), (1, .ref (ux 0)), (0, .ref b)] [] := by
  subst hcs
  refine x_aload_n C.1 dL_law_1422 2 rfl ?_
  refine x_callVi C (As := []) (rest := []) 0 law_x vc_X11 (f_keep l D cy ux V0x J0 R0x X_VR X_VJ X_np X_ne X_tl X_bp X_be X_wt) (l1 := []) (l2 := MW cy um V0m J0 R0m) rfl (w2 := fun u66 => XW cy ux u66.1 u66.2.1 u66.2.2 ++ MW cy um V0m J0 R0m) (fun _ => rfl) rfl wm_yX11_keep wn_X11 wl_L_141 wi_yX11_keep we_yX11_keep hd_yX11_keep rfl ⟨Nat.le_of_ble_eq_true rfl, Nat.le_of_ble_eq_true rfl⟩ (Nat.le_of_ble_eq_true rfl) ⟨Nat.le_of_ble_eq_true rfl, Nat.le_of_ble_eq_true rfl⟩ dL_law_1423 (fun r66 u66 hr66 h66 => ?_)
  refine x_aload_n C.1 dL_law_1426 1 rfl ?_
  refine x_callVi C (As := []) (rest := [vI r66]) 129 law_m vc_X12 (g_keep l D cy um V0m J0 R0m M_VR X_VJ M_76 M_78 M_tp) (l1 := XW cy ux u66.1 u66.2.1 u66.2.2) (l2 := []) (List.append_nil _).symm (w2 := fun u67 : xS => XW cy ux u66.1 u66.2.1 u66.2.2 ++ MW cy um u67.1 u67.2.1 u67.2.2) (fun _ => List.append_nil _) rfl wm_yX12_keep wn_X12 wl_L_145 wi_yX12_keep we_yX12_keep hd_yX12_keep rfl ⟨Nat.le_of_ble_eq_true rfl, Nat.le_of_ble_eq_true rfl⟩ (Nat.le_of_ble_eq_true rfl) ⟨Nat.le_of_ble_eq_true rfl, Nat.le_of_ble_eq_true rfl⟩ dL_law_1427 (fun r67 u67 hr67 h67 => ?_)
  refine x_icmp_eq_t C.1 (tgt := 1504) dL_law_1430 (by decide) hr66 hr67 (by omega) ?_
  refine x_iinc C.1 (v := 6) (lv' := [(3, vI 6), (2, .ref (um 0)), (1, .ref (ux 0)), (0, .ref b)]) (by decide) dL_law_1504 0 rfl (by decide) rfl ?_
  refine x_goto C.1 (tgt := 18) dL_law_1507 (by decide) ?_
  refine x_iload_n C.1 dL_law_18 0 rfl ?_
  refine x_aload_n C.1 dL_law_19 3 rfl ?_
  refine x_slen C (b := b) hX hbl hbA dL_law_20 ?_
  refine x_bipush C.1 (n := 6) dL_law_21 ?_
  refine x_isub C.1 rfl dL_law_23 ?_
  refine x_icmp_gt_t C.1 (tgt := 1510) dL_law_24 (by decide) (by decide) (by omega) (by omega) ?_
  refine x_iconst C.1 (n := 1) dL_law_1510 ?_
  exact x_lend C hr dL_law_1511 (Nat.le_of_ble_eq_true rfl) (Nat.le_of_ble_eq_true rfl)
set_option maxHeartbeats 4000000 in
set_option maxRecDepth 100000 in
theorem law_case_30 {p : Program} {e : Env} {s : State} {m : MethodId} {below : List Frame} {meth : Method} {c : Code} (l : Launch) (D : va_G) (cy : Nat → ClassId) {b L : Nat} {xs : Nat → Int32} (C : xC2 p s m #[Value.ref b] meth c D (fun q => s.heap.size ≤ q) s.heap 4 code RL (xTY cy)) (hr : meth.sig.returnType = ret) (hX : va_X b L xs s s.heap) (hbl : b < s.heap.size) (hbA : ¬ (fun q : Nat => s.heap.size ≤ q) b) (hL6 : L = 6) (ux um : Nat → Nat) (cs : Nat × Nat) (hcs : cs = (162, 8366)) : xW p l e room_1 s m #[Value.ref b] below meth c D (fun q => s.heap.size ≤ q) s.heap 4 cs.1 cs.2 (lw_Z below #[Value.ref b] s) (XW cy ux V0x J0 R0x ++ MW cy um V0m J0 R0m) 1435 [(3, vI 0), (2, .ref (um 0)), (1, .ref (ux 0)), (0, .ref b)] [] := by
  subst hcs
  refine x_aload_n C.1 dL_law_1435 2 rfl ?_
  refine x_callVi C (As := []) (rest := []) 0 law_x vc_X11 (f_undo l D cy ux V0x J0 R0x X_VR X_VJ X_np X_ne X_tl X_kp) (l1 := []) (l2 := MW cy um V0m J0 R0m) rfl (w2 := fun u68 => XW cy ux V0x J0 R0x ++ MW cy um V0m J0 R0m) (fun _ => rfl) rfl wm_yX11_undo wn_X11 wl_L_146 wi_yX11_undo we_yX11_undo hd_yX11_undo rfl ⟨Nat.le_of_ble_eq_true rfl, Nat.le_of_ble_eq_true rfl⟩ (Nat.le_of_ble_eq_true rfl) ⟨Nat.le_of_ble_eq_true rfl, Nat.le_of_ble_eq_true rfl⟩ dL_law_1436 (fun r68 u68 hr68 h68 => ?_)
  refine x_aload_n C.1 dL_law_1439 1 rfl ?_
  refine x_callVi C (As := []) (rest := [vI r68]) 129 law_m vc_X12 (g_undo l D cy um V0m J0 R0m M_VR X_VJ M_76 M_78 M_tp M_kp) (l1 := XW cy ux V0x J0 R0x) (l2 := []) (List.append_nil _).symm (w2 := fun u69 : Unit => XW cy ux V0x J0 R0x ++ MW cy um V0m J0 R0m) (fun _ => List.append_nil _) rfl wm_yX12_undo wn_X12 wl_L_150 wi_yX12_undo we_yX12_undo hd_yX12_undo rfl ⟨Nat.le_of_ble_eq_true rfl, Nat.le_of_ble_eq_true rfl⟩ (Nat.le_of_ble_eq_true rfl) ⟨Nat.le_of_ble_eq_true rfl, Nat.le_of_ble_eq_true rfl⟩ dL_law_1440 (fun r69 u69 hr69 h69 => ?_)
  refine x_icmp_eq_t C.1 (tgt := 1504) dL_law_1443 (by decide) hr68 hr69 (by omega) ?_
  refine x_iinc C.1 (v := 6) (lv' := [(3, vI 6), (2, .ref (um 0)), (1, .ref (ux 0)), (0, .ref b)]) (by decide) dL_law_1504 0 rfl (by decide) rfl ?_
  refine x_goto C.1 (tgt := 18) dL_law_1507 (by decide) ?_
  refine x_iload_n C.1 dL_law_18 0 rfl ?_
  refine x_aload_n C.1 dL_law_19 3 rfl ?_
  refine x_slen C (b := b) hX hbl hbA dL_law_20 ?_
  refine x_bipush C.1 (n := 6) dL_law_21 ?_
  refine x_isub C.1 rfl dL_law_23 ?_
  refine x_icmp_gt_t C.1 (tgt := 1510) dL_law_24 (by decide) (by decide) (by omega) (by omega) ?_
  refine x_iconst C.1 (n := 1) dL_law_1510 ?_
  exact x_lend C hr dL_law_1511 (Nat.le_of_ble_eq_true rfl) (Nat.le_of_ble_eq_true rfl)
set_option maxHeartbeats 4000000 in
set_option maxRecDepth 100000 in
theorem law_case_31 {p : Program} {e : Env} {s : State} {m : MethodId} {below : List Frame} {meth : Method} {c : Code} (l : Launch) (D : va_G) (cy : Nat → ClassId) {b L : Nat} {xs : Nat → Int32} (C : xC2 p s m #[Value.ref b] meth c D (fun q => s.heap.size ≤ q) s.heap 4 code RL (xTY cy)) (hr : meth.sig.returnType = ret) (hX : va_X b L xs s s.heap) (hbl : b < s.heap.size) (hbA : ¬ (fun q : Nat => s.heap.size ≤ q) b) (hL6 : L = 6) (ux um : Nat → Nat) (cs : Nat × Nat) (hcs : cs = (162, 8366)) : xW p l e room_1 s m #[Value.ref b] below meth c D (fun q => s.heap.size ≤ q) s.heap 4 cs.1 cs.2 (lw_Z below #[Value.ref b] s) (XW cy ux V0x J0 R0x ++ MW cy um V0m J0 R0m) 1448 [(3, vI 0), (2, .ref (um 0)), (1, .ref (ux 0)), (0, .ref b)] [] := by
  subst hcs
  refine x_aload_n C.1 dL_law_1448 2 rfl ?_
  refine x_aload_n C.1 dL_law_1449 3 rfl ?_
  refine x_iload_n C.1 dL_law_1450 0 rfl ?_
  refine x_iconst C.1 (n := 1) dL_law_1451 ?_
  refine x_iadd C.1 (v := 1) (by decide) dL_law_1452 ?_
  refine x_sld C (b := b) (i := 1) hX hbl hbA (by omega) (by omega) dL_law_1453 ?_
  rw [show (1 : Int).toNat = 1 from rfl]
  refine x_aload_n C.1 dL_law_1454 3 rfl ?_
  refine x_iload_n C.1 dL_law_1455 0 rfl ?_
  refine x_iconst C.1 (n := 2) dL_law_1456 ?_
  refine x_iadd C.1 (v := 2) (by decide) dL_law_1457 ?_
  refine x_sld C (b := b) (i := 2) hX hbl hbA (by omega) (by omega) dL_law_1458 ?_
  rw [show (2 : Int).toNat = 2 from rfl]
  refine x_callVi C (As := [vI ((xs 1).toInt), vI ((xs 2).toInt)]) (rest := []) 0 law_x vc_X11 (f_check l D cy ux V0x J0 R0x X_VR X_VJ ((xs 1).toInt) ((xs 2).toInt) (xi_r _) (xi_r _) X_np X_ne X_tl) (l1 := []) (l2 := MW cy um V0m J0 R0m) rfl (w2 := fun u70 => XW cy ux V0x J0 R0x ++ MW cy um V0m J0 R0m) (fun _ => rfl) rfl wm_yX11_check wn_X11 wl_L_151 wi_yX11_check we_yX11_check hd_yX11_check rfl ⟨Nat.le_of_ble_eq_true rfl, Nat.le_of_ble_eq_true rfl⟩ (Nat.le_of_ble_eq_true rfl) ⟨Nat.le_of_ble_eq_true rfl, Nat.le_of_ble_eq_true rfl⟩ dL_law_1459 (fun r70 u70 hr70 h70 => ?_)
  refine x_aload_n C.1 dL_law_1462 1 rfl ?_
  refine x_aload_n C.1 dL_law_1463 3 rfl ?_
  refine x_iload_n C.1 dL_law_1464 0 rfl ?_
  refine x_iconst C.1 (n := 1) dL_law_1465 ?_
  refine x_iadd C.1 (v := 1) (by decide) dL_law_1466 ?_
  refine x_sld C (b := b) (i := 1) hX hbl hbA (by omega) (by omega) dL_law_1467 ?_
  rw [show (1 : Int).toNat = 1 from rfl]
  refine x_aload_n C.1 dL_law_1468 3 rfl ?_
  refine x_iload_n C.1 dL_law_1469 0 rfl ?_
  refine x_iconst C.1 (n := 2) dL_law_1470 ?_
  refine x_iadd C.1 (v := 2) (by decide) dL_law_1471 ?_
  refine x_sld C (b := b) (i := 2) hX hbl hbA (by omega) (by omega) dL_law_1472 ?_
  rw [show (2 : Int).toNat = 2 from rfl]
  refine x_callVi C (As := [vI ((xs 1).toInt), vI ((xs 2).toInt)]) (rest := [vI r70]) 129 law_m vc_X12 (g_check l D cy um V0m J0 R0m M_VR X_VJ ((xs 1).toInt) ((xs 2).toInt) (xi_r _) (xi_r _) M_76 M_78 M_tp) (l1 := XW cy ux V0x J0 R0x) (l2 := []) (List.append_nil _).symm (w2 := fun u71 : Unit => XW cy ux V0x J0 R0x ++ MW cy um V0m J0 R0m) (fun _ => List.append_nil _) rfl wm_yX12_check wn_X12 wl_L_154 wi_yX12_check we_yX12_check hd_yX12_check rfl ⟨Nat.le_of_ble_eq_true rfl, Nat.le_of_ble_eq_true rfl⟩ (Nat.le_of_ble_eq_true rfl) ⟨Nat.le_of_ble_eq_true rfl, Nat.le_of_ble_eq_true rfl⟩ dL_law_1473 (fun r71 u71 hr71 h71 => ?_)
  refine x_icmp_eq_t C.1 (tgt := 1504) dL_law_1476 (by decide) hr70 hr71 (by omega) ?_
  refine x_iinc C.1 (v := 6) (lv' := [(3, vI 6), (2, .ref (um 0)), (1, .ref (ux 0)), (0, .ref b)]) (by decide) dL_law_1504 0 rfl (by decide) rfl ?_
  refine x_goto C.1 (tgt := 18) dL_law_1507 (by decide) ?_
  refine x_iload_n C.1 dL_law_18 0 rfl ?_
  refine x_aload_n C.1 dL_law_19 3 rfl ?_
  refine x_slen C (b := b) hX hbl hbA dL_law_20 ?_
  refine x_bipush C.1 (n := 6) dL_law_21 ?_
  refine x_isub C.1 rfl dL_law_23 ?_
  refine x_icmp_gt_t C.1 (tgt := 1510) dL_law_24 (by decide) (by decide) (by omega) (by omega) ?_
  refine x_iconst C.1 (n := 1) dL_law_1510 ?_
  exact x_lend C hr dL_law_1511 (Nat.le_of_ble_eq_true rfl) (Nat.le_of_ble_eq_true rfl)
set_option maxHeartbeats 4000000 in
set_option maxRecDepth 100000 in
theorem law_case_32 {p : Program} {e : Env} {s : State} {m : MethodId} {below : List Frame} {meth : Method} {c : Code} (l : Launch) (D : va_G) (cy : Nat → ClassId) {b L : Nat} {xs : Nat → Int32} (C : xC2 p s m #[Value.ref b] meth c D (fun q => s.heap.size ≤ q) s.heap 4 code RL (xTY cy)) (hr : meth.sig.returnType = ret) (hX : va_X b L xs s s.heap) (hbl : b < s.heap.size) (hbA : ¬ (fun q : Nat => s.heap.size ≤ q) b) (hL6 : L = 6) (ux um : Nat → Nat) (cs : Nat × Nat) (hcs : cs = (162, 8366)) : xW p l e room_1 s m #[Value.ref b] below meth c D (fun q => s.heap.size ≤ q) s.heap 4 cs.1 cs.2 (lw_Z below #[Value.ref b] s) (XW cy ux V0x J0 R0x ++ MW cy um V0m J0 R0m) 1481 [(3, vI 0), (2, .ref (um 0)), (1, .ref (ux 0)), (0, .ref b)] [] := by
  subst hcs
  refine x_aload_n C.1 dL_law_1481 2 rfl ?_
  refine x_aload_n C.1 dL_law_1482 3 rfl ?_
  refine x_iload_n C.1 dL_law_1483 0 rfl ?_
  refine x_iconst C.1 (n := 1) dL_law_1484 ?_
  refine x_iadd C.1 (v := 1) (by decide) dL_law_1485 ?_
  refine x_sld C (b := b) (i := 1) hX hbl hbA (by omega) (by omega) dL_law_1486 ?_
  rw [show (1 : Int).toNat = 1 from rfl]
  refine x_callVi C (As := [vI ((xs 1).toInt)]) (rest := []) 0 law_x vc_X11 (f_count l D cy ux V0x J0 R0x X_VR X_VJ ((xs 1).toInt) (xi_r _) X_np X_ne X_tl X_cl X_lw X_ru X_dy X_xx) (l1 := []) (l2 := MW cy um V0m J0 R0m) rfl (w2 := fun u72 => XW cy ux V0x J0 R0x ++ MW cy um V0m J0 R0m) (fun _ => rfl) rfl wm_yX11_count wn_X11 wl_L_155 wi_yX11_count we_yX11_count hd_yX11_count rfl ⟨Nat.le_of_ble_eq_true rfl, Nat.le_of_ble_eq_true rfl⟩ (Nat.le_of_ble_eq_true rfl) ⟨Nat.le_of_ble_eq_true rfl, Nat.le_of_ble_eq_true rfl⟩ dL_law_1487 (fun r72 u72 hr72 h72 => ?_)
  refine x_aload_n C.1 dL_law_1490 1 rfl ?_
  refine x_aload_n C.1 dL_law_1491 3 rfl ?_
  refine x_iload_n C.1 dL_law_1492 0 rfl ?_
  refine x_iconst C.1 (n := 1) dL_law_1493 ?_
  refine x_iadd C.1 (v := 1) (by decide) dL_law_1494 ?_
  refine x_sld C (b := b) (i := 1) hX hbl hbA (by omega) (by omega) dL_law_1495 ?_
  rw [show (1 : Int).toNat = 1 from rfl]
  refine x_callVi C (As := [vI ((xs 1).toInt)]) (rest := [vI r72]) 129 law_m vc_X12 (g_count l D cy um V0m J0 R0m M_VR X_VJ ((xs 1).toInt) (xi_r _) M_76 M_78 M_tp M_77 M_79 M_80 M_cm) (l1 := XW cy ux V0x J0 R0x) (l2 := []) (List.append_nil _).symm (w2 := fun u73 : Unit => XW cy ux V0x J0 R0x ++ MW cy um V0m J0 R0m) (fun _ => List.append_nil _) rfl wm_yX12_count wn_X12 wl_L_158 wi_yX12_count we_yX12_count hd_yX12_count rfl ⟨Nat.le_of_ble_eq_true rfl, Nat.le_of_ble_eq_true rfl⟩ (Nat.le_of_ble_eq_true rfl) ⟨Nat.le_of_ble_eq_true rfl, Nat.le_of_ble_eq_true rfl⟩ dL_law_1496 (fun r73 u73 hr73 h73 => ?_)
  refine x_icmp_eq_t C.1 (tgt := 1504) dL_law_1499 (by decide) hr72 hr73 (by omega) ?_
  refine x_iinc C.1 (v := 6) (lv' := [(3, vI 6), (2, .ref (um 0)), (1, .ref (ux 0)), (0, .ref b)]) (by decide) dL_law_1504 0 rfl (by decide) rfl ?_
  refine x_goto C.1 (tgt := 18) dL_law_1507 (by decide) ?_
  refine x_iload_n C.1 dL_law_18 0 rfl ?_
  refine x_aload_n C.1 dL_law_19 3 rfl ?_
  refine x_slen C (b := b) hX hbl hbA dL_law_20 ?_
  refine x_bipush C.1 (n := 6) dL_law_21 ?_
  refine x_isub C.1 rfl dL_law_23 ?_
  refine x_icmp_gt_t C.1 (tgt := 1510) dL_law_24 (by decide) (by decide) (by omega) (by omega) ?_
  refine x_iconst C.1 (n := 1) dL_law_1510 ?_
  exact x_lend C hr dL_law_1511 (Nat.le_of_ble_eq_true rfl) (Nat.le_of_ble_eq_true rfl)
