section
def xdL (b r : Nat) : xD := if r = 0 then .inl (3, [b + 4, b + 5, 0, 0, 0, 0, 0, 0]) else if r = 1 then .inr (4, 4, 3, b + 3, 2) else if r = 2 then .inr (5, 8, 3, b + 11, 1) else if r < 11 then (if (r - 3) % 2 = 0 then .inl (5, [0, 0, 0, 0, 0, 0, 0, 0, b + r + 4]) else .inr (0, 7, 0, 0, 0)) else .inl (4, [0, 0, 0, 0])
def xdT (t r : Nat) : xD := if r = 0 then .inl (9, [t + 4, 0, t + 5, t + 6, t + 7, 0]) else if r = 1 then .inr (0, 200, 0, 0, 0) else if r = 2 then .inr (3, 14, 0, 0, 0) else if r = 3 then .inr (0, 15, 0, 0, 0) else .inr (0, 14, 0, 0, 0)
def xdsc (i : Nat) : xD :=
  if i = 0 then .inl (11, [1 + 3, 20 + 3, 39 + 3, 0, 58 + 3, 60 + 3, 98 + 3, 105 + 3, 124 + 3, 126 + 3, 127 + 3, 128 + 3])
  else if i < 58 then xdL (1 + 19 * ((i - 1) / 19)) ((i - 1) % 19)
  else if i = 58 then .inl (8, [59 + 3, 0])
  else if i = 59 then .inr (0, 220, 0, 0, 0)
  else if i = 60 then .inl (1, [2, 66 + 3, 67 + 3, 68 + 3, 69 + 3, 72 + 3])
  else if i < 66 then xdT 61 (i - 61)
  else if i = 66 then .inr (6, 4, 2, 0, 0)
  else if i < 69 then .inr (0, 6, 0, 0, 0)
  else if i = 69 then .inl (0, [70 + 3, 71 + 3, 0, 0])
  else if i = 70 then .inr (0, 26, 0, 0, 0)
  else if i = 71 then .inr (0, 40, 0, 0, 0)
  else if i = 72 then .inl (6, [58 + 3, 2, 0, 0, 0, 0])
  else if i < 98 then xdT (73 + 5 * ((i - 73) / 5)) ((i - 73) % 5)
  else if i = 98 then .inl (2, [2, 2, 2, 2, 0, 0, 103 + 3, 104 + 3, 0, 0, 0, 0, 0, 0, 0, 0, 1])
  else if i < 101 then .inr (1, 475, 1, 0, 0)
  else if i < 103 then .inr (0, 475, 0, 0, 0)
  else if i < 105 then .inr (0, 3, 0, 0, 0)
  else if i = 105 then .inl (10, [106 + 3, 107 + 3, 108 + 3, 109 + 3, 0, 0, 0, 0])
  else if i = 106 then .inr (4, 7, 3, 110, 2)
  else if i = 107 then .inr (0, 3, 0, 0, 0)
  else if i < 110 then .inr (0, 7, 0, 0, 0)
  else if i < 124 then (if i % 2 = 0 then .inl (5, [0, 0, 0, 0, 0, 0, 0, 0, i + 4]) else .inr (0, 7, 0, 0, 0))
  else if i = 124 then .inl (7, [125 + 3, 0])
  else if i = 125 then .inr (0, 84, 0, 0, 0)
  else if i = 126 then .inr (0, 100, 0, 0, 0)
  else if i = 127 then .inr (0, 4, 0, 0, 0)
  else .inr (1, 13, 1, 0, 0)
abbrev isLa (b : Nat) : Prop := b = 1 ∨ b = 20 ∨ b = 39
theorem xd_L {b : Nat} (hb : isLa b) : xdsc b = .inl (3, [b + 4, b + 5, 0, 0, 0, 0, 0, 0]) := by rcases hb with rfl | rfl | rfl <;> rfl
theorem xd_La {b : Nat} (hb : isLa b) : xdsc (b + 1) = .inr (4, 4, 3, b + 3, 2) := by rcases hb with rfl | rfl | rfl <;> rfl
theorem xd_Lb {b : Nat} (hb : isLa b) : xdsc (b + 2) = .inr (5, 8, 3, b + 11, 1) := by rcases hb with rfl | rfl | rfl <;> rfl
theorem xd_P {b l : Nat} (hb : isLa b) (hl : l < 4) : xdsc (b + 3 + 2 * l) = .inl (5, [0, 0, 0, 0, 0, 0, 0, 0, b + 3 + 2 * l + 4]) := by
  have : l = 0 ∨ l = 1 ∨ l = 2 ∨ l = 3 := by omega
  rcases hb with rfl | rfl | rfl <;> rcases this with rfl | rfl | rfl | rfl <;> rfl
theorem xd_Pk {b l : Nat} (hb : isLa b) (hl : l < 4) : xdsc (b + 3 + 2 * l + 1) = .inr (0, 7, 0, 0, 0) := by
  have : l = 0 ∨ l = 1 ∨ l = 2 ∨ l = 3 := by omega
  rcases hb with rfl | rfl | rfl <;> rcases this with rfl | rfl | rfl | rfl <;> rfl
theorem xd_E {b q : Nat} (hb : isLa b) (hq : q < 8) : xdsc (b + 11 + 1 * q) = .inl (4, [0, 0, 0, 0]) := by
  have : q = 0 ∨ q = 1 ∨ q = 2 ∨ q = 3 ∨ q = 4 ∨ q = 5 ∨ q = 6 ∨ q = 7 := by omega
  rcases hb with rfl | rfl | rfl <;> rcases this with rfl | rfl | rfl | rfl | rfl | rfl | rfl | rfl <;> rfl
/-- a plant's two cells -/
abbrev isPl (c : Nat) : Prop := c + 1 < 129 ∧ xdsc c = .inl (5, [0, 0, 0, 0, 0, 0, 0, 0, c + 4]) ∧ xdsc (c + 1) = .inr (0, 7, 0, 0, 0)
theorem isPl_L {b l : Nat} (hb : isLa b) (hl : l < 4) : isPl (b + 3 + 2 * l) := ⟨by omega, xd_P hb hl, xd_Pk hb hl⟩
abbrev isPe (c : Nat) : Prop := c < 129 ∧ xdsc c = .inl (4, [0, 0, 0, 0])
theorem isPe_L {b q : Nat} (hb : isLa b) (hq : q < 8) : isPe (b + 11 + 1 * q) := ⟨by omega, xd_E hb hq⟩
abbrev isTx (t : Nat) : Prop := t = 61 ∨ t = 73 ∨ t = 78 ∨ t = 83 ∨ t = 88 ∨ t = 93
theorem xd_T {t : Nat} (ht : isTx t) : xdsc t = .inl (9, [t + 4, 0, t + 5, t + 6, t + 7, 0]) := by rcases ht with rfl | rfl | rfl | rfl | rfl | rfl <;> rfl
theorem xd_T1 {t : Nat} (ht : isTx t) : xdsc (t + 1) = .inr (0, 200, 0, 0, 0) := by rcases ht with rfl | rfl | rfl | rfl | rfl | rfl <;> rfl
theorem xd_T2 {t : Nat} (ht : isTx t) : xdsc (t + 2) = .inr (3, 14, 0, 0, 0) := by rcases ht with rfl | rfl | rfl | rfl | rfl | rfl <;> rfl
theorem xd_T3 {t : Nat} (ht : isTx t) : xdsc (t + 3) = .inr (0, 15, 0, 0, 0) := by rcases ht with rfl | rfl | rfl | rfl | rfl | rfl <;> rfl
theorem xd_T4 {t : Nat} (ht : isTx t) : xdsc (t + 4) = .inr (0, 14, 0, 0, 0) := by rcases ht with rfl | rfl | rfl | rfl | rfl | rfl <;> rfl
abbrev XW (cy : Nat → ClassId) (ad : Nat → Nat) (V J : Nat → Nat → Int) (Rr : Nat → Nat → Nat) : va_W := xw 129 xdsc cy ad V J Rr
def mdsc (i : Nat) : xD :=
  if i = 0 then .inl (12, [1 + 3, 2 + 3, 3 + 3, 4 + 3, 0, 0, 0, 0, 0, 0, 0, 0, 0, 5 + 3, 6 + 3, 7 + 3, 8 + 3, 9 + 3, 10 + 3, 11 + 3, 12 + 3, 13 + 3, 14 + 3, 15 + 3, 16 + 3, 17 + 3, 18 + 3, 0, 0, 0, 19 + 3, 0, 0, 0, 0, 20 + 3, 21 + 3, 22 + 3, 23 + 3, 1, 24 + 3, 25 + 3, 26 + 3, 27 + 3, 28 + 3, 29 + 3, 0, 0, 30 + 3, 0, 0, 31 + 3, 32 + 3, 0])
  else if i = 1 then .inr (0, 81, 0, 0, 0)
  else if i = 2 then .inr (0, 81, 0, 0, 0)
  else if i = 3 then .inr (0, 81, 0, 0, 0)
  else if i = 4 then .inr (2, 220, 0, 0, 0)
  else if i = 5 then .inr (0, 220, 0, 0, 0)
  else if i = 6 then .inr (0, 220, 0, 0, 0)
  else if i = 7 then .inr (0, 14, 0, 0, 0)
  else if i = 8 then .inr (0, 14, 0, 0, 0)
  else if i = 9 then .inr (0, 14, 0, 0, 0)
  else if i = 10 then .inr (0, 14, 0, 0, 0)
  else if i = 11 then .inr (0, 1100, 0, 0, 0)
  else if i = 12 then .inr (0, 5, 0, 0, 0)
  else if i = 13 then .inr (0, 70, 0, 0, 0)
  else if i = 14 then .inr (0, 70, 0, 0, 0)
  else if i = 15 then .inr (0, 70, 0, 0, 0)
  else if i = 16 then .inr (0, 70, 0, 0, 0)
  else if i = 17 then .inr (0, 220, 0, 0, 0)
  else if i = 18 then .inr (0, 13, 0, 0, 0)
  else if i = 19 then .inr (0, 8, 0, 0, 0)
  else if i = 20 then .inr (0, 8, 0, 0, 0)
  else if i = 21 then .inr (0, 8, 0, 0, 0)
  else if i = 22 then .inr (1, 500, 1, 0, 0)
  else if i = 23 then .inr (1, 500, 1, 0, 0)
  else if i = 24 then .inr (1, 25, 1, 0, 0)
  else if i = 25 then .inr (1, 25, 1, 0, 0)
  else if i = 26 then .inr (0, 100, 0, 0, 0)
  else if i = 27 then .inr (0, 4, 0, 0, 0)
  else if i = 28 then .inr (0, 4, 0, 0, 0)
  else if i = 29 then .inr (1, 13, 1, 0, 0)
  else if i = 30 then .inr (0, 84, 0, 0, 0)
  else if i = 31 then .inr (0, 6, 0, 0, 0)
  else if i = 32 then .inr (0, 6, 0, 0, 0)
  else .inr (0, 0, 0, 0, 0)
abbrev MW (cy : Nat → ClassId) (ad : Nat → Nat) (V J : Nat → Nat → Int) (Rr : Nat → Nat → Nat) : va_W := xw 33 mdsc cy ad V J Rr
abbrev VR (V : Nat → Nat → Int) : Prop := ∀ i k, R32 (V i k)
abbrev VJ (J : Nat → Nat → Int) : Prop := ∀ i k, R64 (J i k)
theorem VR_up {V : Nat → Nat → Int} {i k : Nat} {a : Int} (h : VR V) (ha : R32 a) : VR (up2 V i k a) := by
  intro j q
  unfold up2 up1
  split
  · dsimp only
    split
    · exact ha
    · exact h _ _
  · exact h _ _
theorem VJ_up {V : Nat → Nat → Int} {i k : Nat} {a : Int} (h : VJ V) (ha : R64 a) : VJ (up2 V i k a) := by
  intro j q
  unfold up2 up1
  split
  · dsimp only
    split
    · exact ha
    · exact h _ _
  · exact h _ _
theorem x64 {a : Int} (h : R32 a) : R64 a := ⟨by omega, by omega⟩
theorem z_nar {a : Int} (h : a = 0 ∨ a = 1) : narrow .boolean (vI a) = vI a := by rcases h with rfl | rfl <;> decide
abbrev xS : Type := (Nat → Nat → Int) × (Nat → Nat → Int) × (Nat → Nat → Nat)
theorem vc_X0 : vwCl[0]? = some (RX0, TX0, 4) := rfl
theorem vc_X1 : vwCl[1]? = some (RX1, TX1, 6) := rfl
theorem vc_X2 : vwCl[2]? = some (RX2, TX2, 17) := rfl
theorem vc_X3 : vwCl[3]? = some (RX3, TX3, 8) := rfl
theorem vc_X4 : vwCl[4]? = some (RX4, TX4, 4) := rfl
theorem vc_X5 : vwCl[5]? = some (RX5, TX5, 9) := rfl
theorem vc_X6 : vwCl[6]? = some (RX6, TX6, 6) := rfl
theorem vc_X7 : vwCl[7]? = some (RX7, TX7, 2) := rfl
theorem vc_X8 : vwCl[8]? = some (RX8, TX8, 2) := rfl
theorem vc_X9 : vwCl[9]? = some (RX9, TX9, 6) := rfl
theorem vc_X10 : vwCl[10]? = some (RX10, TX10, 8) := rfl
theorem vc_X11 : vwCl[11]? = some (RX11, TX11, 12) := rfl
theorem vc_X12 : vwCl[12]? = some (RX12, TX12, 54) := rfl
end
section
def iUshr (a b : Int) : Int := ((Int32.ofInt a).toUInt32 >>> ((Int32.ofInt b).toUInt32 &&& Int32.toUInt32 31)).toInt32.toInt
section XM
variable {p : Program} {l : Launch} {e : Env} {R : Room} {s : State} {m : MethodId} {args : Array Value} {below : List Frame} {meth : Method} {c : Code} {cells slots : Nat} {Q : State → Prop}
variable {D : va_G} {A : Nat → Prop} {H0 : Heap} {nL : Nat} {ws : va_W} {pc : Nat} {lv : List (Nat × Value)} {st : List Value} {cc : ByteArray} {Ts : List Cond} {own : String} {TY : List (ClassId × FieldType)}
theorem x_iushr (C : xC p s m args meth c D A H0 nL cc Ts own TY) {a b v : Int} (hv : iUshr a b = v) (hd : decode cc pc = .ok (.iushr, 1)) (k : xW p l e R s m args below meth c D A H0 nL cells slots Q ws (pc + 1) lv (vI v :: st)) : xW p l e R s m args below meth c D A H0 nL cells slots Q ws pc lv (vI b :: vI a :: st) :=
  fun H locs la hP hD hS hl => lv_iushr C.1 C.2.1 hd (v := Int32.ofInt v) (by rw [← hv, iUshr, xi_of]) (k H locs la hP hD hS hl)
theorem x_ldcw (C : xC p s m args meth c D A H0 nL cc Ts own TY) {index : Nat} {n : Int} (hw : (Jvm.Cond.constant own index (Int32.ofInt n)) ∈ Ts) (hd : decode cc pc = .ok (.ldc_w index, 3)) (k : xW p l e R s m args below meth c D A H0 nL cells slots Q ws (pc + 3) lv (vI n :: st)) : xW p l e R s m args below meth c D A H0 nL cells slots Q ws pc lv st :=
  fun H locs la hP hD hS hl => lv_ldcw C.1 C.2.1 C.2.2.2.1 (C.2.2.2.2.1 _ hw) hd (k H locs la hP hD hS hl)
theorem x_lv (lv' : List (Nat × Value)) (ks : List Nat) (h : lv_pick lv ks = lv') (k : xW p l e R s m args below meth c D A H0 nL cells slots Q ws pc lv' st) : xW p l e R s m args below meth c D A H0 nL cells slots Q ws pc lv st :=
  fun H locs la hP hD hS hl => k H locs la hP hD hS (lv_sub hl ks h)
theorem x_loop {σ : Type} (I : σ → Prop) (μ : σ → Nat) (wsf : σ → va_W) (lvf : σ → List (Nat × Value)) (body : ∀ x : σ, I x → (∀ y : σ, I y → μ y < μ x → xW p l e R s m args below meth c D A H0 nL cells slots Q (wsf y) pc (lvf y) st) → xW p l e R s m args below meth c D A H0 nL cells slots Q (wsf x) pc (lvf x) st) (x0 : σ) (h0 : I x0) {ws0 : va_W} {lv0 : List (Nat × Value)} (hw : ws0 = wsf x0) (hl : lv0 = lvf x0) : xW p l e R s m args below meth c D A H0 nL cells slots Q ws0 pc lv0 st := by
  subst hw; subst hl
  have key : ∀ n, ∀ x : σ, μ x < n → I x → xW p l e R s m args below meth c D A H0 nL cells slots Q (wsf x) pc (lvf x) st := by
    intro n
    induction n with
    | zero => exact fun x h => absurd h (Nat.not_lt_zero _)
    | succ n ih => exact fun x h hI => body x hI (fun y hy hlt => ih y (by omega) hy)
  exact key _ x0 (Nat.lt_succ_self _) h0
end XM
section XA
variable {p : Program} {l : Launch} {e : Env} {R : Room} {s : State} {m : MethodId} {args : Array Value} {below : List Frame} {meth : Method} {c : Code} {cells slots : Nat} {Q : State → Prop}
variable {D : va_G} {A : Nat → Prop} {H0 : Heap} {nL : Nat} {pc : Nat} {lv : List (Nat × Value)} {st : List Value} {cc : ByteArray} {own : String} {cy : Nat → ClassId}
variable {N : Nat} {dsc : Nat → xD} {ad : Nat → Nat} {V J : Nat → Nat → Int} {Rr : Nat → Nat → Nat}
/-- copies of n places of the array i from sp on into the array j from dp on -/
def cpV (V : Nat → Nat → Int) (i sp j dp n : Nat) : Nat → Nat → Int := fun q k => if q = j ∧ dp ≤ k ∧ k < dp + n then V i (sp + (k - dp)) else V q k
theorem x_copyi (C : xC2 p s m args meth c D A H0 nL cc own (xTY cy)) {index : Nat} (hlink : Cond.methodLink own index arraycopyName ∈ WG) {i j n0 n1 b0 d0 b1 d1 : Nat} (hi : i < N) (hj : j < N) (hdi : dsc i = .inr (0, n0, 0, b0, d0)) (hdj : dsc j = .inr (0, n1, 0, b1, d1)) (sp dp n : Nat) (h4 : sp + n ≤ n0) (h5 : dp + n ≤ n1) (hn0 : n0 < 2147483648) (hn1 : n1 < 2147483648) (hframes : 1 ≤ R.frames) (hlocals : (st.map fun v => v.category).sum + 40 ≤ R.locals) (hdg : decode cc pc = .ok (.invokestatic index, 3))
    (kk : xW p l e R s m args below meth c D A H0 nL cells slots Q (xw N dsc cy ad (cpV V i sp j dp n) J Rr) (pc + 3) lv st) : xW p l e R s m args below meth c D A H0 nL cells slots Q (xw N dsc cy ad V J Rr) pc lv (vI (n : Int) :: vI (dp : Int) :: .ref (ad j) :: vI (sp : Int) :: .ref (ad i) :: st) := by
  intro H locs la hP hD hS hl
  have rr : ∀ k : Nat, k < 2147483648 → (Int32.ofInt (k : Int)).toNatClampNeg = k := fun k hk => by rw [xi_nat ⟨by omega, by omega⟩]; omega
  have nn : ∀ k : Nat, k < 2147483648 → ¬ Int32.ofInt (k : Int) < 0 := fun k hk h => by
    have := (xi_lt (a := (k : Int)) (b := 0) ⟨by omega, by omega⟩ (by decide)).mp h
    omega
  refine va_copyi C.1.1 C.1.2.1 (C.1.2.2.1.trans hl.1.symm) C.1.2.2.2.1 (C.1.2.2.2.2.1 _ hlink) (C.1.2.2.2.2.1 _ wnat_arraycopy) (C.1.2.2.2.2.1 _ wi_arraycopyName) (C.1.2.2.2.2.1 _ wn_J10) C.1.2.2.2.2.2.1 hP hD hS i j 0 0 (xw_at hi hdi) (xw_at hj hdj) rfl rfl rfl (nn sp (by omega)) (nn dp (by omega)) (nn n (by omega)) (by rw [rr sp (by omega), rr n (by omega)]; exact h4) (by rw [rr dp (by omega), rr n (by omega)]; exact h5) (fun k _ => rfl) hframes (Nat.le_trans (Nat.add_le_add_left (show nativeFrameWords "java/lang/System" "arraycopy" 5 + 11 ≤ 40 by decide +kernel) _) hlocals) hdg (fun H1 locs1 hP1 hD1 hS1 => ?_)
  rw [rr sp (by omega), rr dp (by omega), rr n (by omega)] at hP1 hD1
  have e1 : (xw N dsc cy ad V J Rr).set j (ad j, .inl (cy 0, n1, .inl (va_cpy (fun k => Int32.ofInt (V i k)) (fun k => Int32.ofInt (V j k)) sp dp n))) = xw N dsc cy ad (cpV V i sp j dp n) J Rr := by
    refine xw_set hj ?_ (fun q hq => ?_) (fun q hq => rfl) (fun q hq => rfl)
    · rw [hdj]
      have e : va_cpy (fun k => Int32.ofInt (V i k)) (fun k => Int32.ofInt (V j k)) sp dp n = fun k => Int32.ofInt (cpV V i sp j dp n j k) := by
        funext k
        simp only [va_cpy, cpV, true_and]
        split <;> rfl
      rw [e]
      rfl
    · funext k
      simp [cpV, hq]
  rw [e1] at hP1 hD1
  exact kk H1 locs1 la hP1 hD1 hS1 hl
end XA
theorem cpV_VR {V : Nat → Nat → Int} {i sp j dp n : Nat} (h : VR V) : VR (cpV V i sp j dp n) := by
  intro q k
  unfold cpV
  split
  · exact h _ _
  · exact h _ _
def flV (V : Nat → Nat → Int) (c n : Nat) (v : Int) : Nat → Nat → Int := fun j k => if j = c ∧ k < n then v else V j k
theorem flV_0 (V : Nat → Nat → Int) (c : Nat) (v : Int) : flV V c 0 v = V := by funext j k; simp [flV]
theorem flV_s (V : Nat → Nat → Int) (c n : Nat) (v : Int) : up2 (flV V c n v) c n v = flV V c (n + 1) v := by
  funext j k
  by_cases hj : j = c
  · subst hj
    by_cases hk : k = n
    · subst hk
      rw [up2_s]
      simp [flV]
    · rw [up2_n _ _ (Or.inr hk)]
      have : k < n + 1 ↔ k < n := by omega
      simp [flV, this]
  · rw [up2_n _ _ (Or.inl hj)]
    simp [flV, hj]
theorem flV_VR {V : Nat → Nat → Int} {c n : Nat} {v : Int} (h : VR V) (hv : R32 v) : VR (flV V c n v) := by
  intro j k
  unfold flV
  split
  · exact hv
  · exact h _ _
def wr (z : Int) : Int := (Int32.ofInt z).toInt
theorem wr_r (z : Int) : R32 (wr z) := xi_r _
theorem wr_cases {z : Int} (h : -6442450944 ≤ z ∧ z ≤ 6442450943) : (-2147483648 ≤ z ∧ z ≤ 2147483647 ∧ wr z = z) ∨ (z < -2147483648 ∧ wr z = z + 4294967296) ∨ (2147483647 < z ∧ wr z = z - 4294967296) := by
  have e : ∀ y : Int, Int32.ofInt (y + 4294967296) = Int32.ofInt y := fun y => by
    rw [Int32.ofInt_add, show Int32.ofInt 4294967296 = 0 by decide]
    exact Int32.add_zero _
  rcases Int.lt_or_le z (-2147483648) with h1 | h1
  · refine Or.inr (Or.inl ⟨h1, ?_⟩)
    rw [wr, ← e z, xi_toInt ⟨by omega, by omega⟩]
  · rcases Int.lt_or_le 2147483647 z with h2 | h2
    · refine Or.inr (Or.inr ⟨h2, ?_⟩)
      rw [wr, show z = (z - 4294967296) + 4294967296 by omega, e, xi_toInt ⟨by omega, by omega⟩]
      omega
    · exact Or.inl ⟨h1, h2, xi_toInt ⟨h1, h2⟩⟩
section XT
variable {p : Program} {l : Launch} {e : Env} {R : Room} {s : State} {m : MethodId} {args : Array Value} {below : List Frame} {meth : Method} {c : Code} {cells slots : Nat} {Q : State → Prop}
variable {D : va_G} {A : Nat → Prop} {H0 : Heap} {nL : Nat} {ws : va_W} {pc : Nat} {lv : List (Nat × Value)} {st : List Value} {cc : ByteArray} {Ts : List Cond} {own : String} {TY : List (ClassId × FieldType)}
theorem x_wrap {z : Int} (k : xW p l e R s m args below meth c D A H0 nL cells slots Q ws pc lv (vI (wr z) :: st)) : xW p l e R s m args below meth c D A H0 nL cells slots Q ws pc lv (vI z :: st) := by
  rw [vI, wr, xi_of] at k
  exact k
theorem x_tabIn (C : xC p s m args meth c D A H0 nL cc Ts own TY) {dflt lo hi : Int} {offs : Array Int} {len : Nat} {x : Int} (v : Int) (hx : x = v) (hr : R32 v) {off : Int} {tgt : Nat} (hd : decode cc pc = .ok (.tableswitch dflt lo hi offs, len)) (h1 : ¬ v < lo) (h2 : ¬ hi < v) (ho : offs[(v - lo).toNat]? = some off) (ht : (pc : Int) + off = (tgt : Int)) (k : xW p l e R s m args below meth c D A H0 nL cells slots Q ws tgt lv st) : xW p l e R s m args below meth c D A H0 nL cells slots Q ws pc lv (vI x :: st) := by
  subst hx
  exact fun H locs la hP hD hS hl => lv_tableIn C.1 C.2.1 hd (by rw [xi_toInt hr]; exact h1) (by rw [xi_toInt hr]; exact h2) (by rw [xi_toInt hr]; exact ho) ht (k H locs la hP hD hS hl)
theorem x_tabOut (C : xC p s m args meth c D A H0 nL cc Ts own TY) {dflt lo hi : Int} {offs : Array Int} {len : Nat} {x : Int} (hr : R32 x) {tgt : Nat} (hd : decode cc pc = .ok (.tableswitch dflt lo hi offs, len)) (h : x < lo ∨ hi < x) (ht : (pc : Int) + dflt = (tgt : Int)) (k : xW p l e R s m args below meth c D A H0 nL cells slots Q ws tgt lv st) : xW p l e R s m args below meth c D A H0 nL cells slots Q ws pc lv (vI x :: st) :=
  fun H locs la hP hD hS hl => lv_tableOut C.1 C.2.1 hd (by rw [xi_toInt hr]; exact h) ht (k H locs la hP hD hS hl)
end XT
theorem z_fit {a : Int} (h : a = 0 ∨ a = 1) : fits .boolean (vI a) = true := by rcases h with rfl | rfl <;> decide
theorem isTx_r {q : Nat} (hq : q < 4) : isTx (78 + 5 * q) := by
  have : q = 0 ∨ q = 1 ∨ q = 2 ∨ q = 3 := by omega
  rcases this with rfl | rfl | rfl | rfl <;> simp [isTx]
def iB (a : Int) : Int := (Int32.ofInt a).toInt8.toInt32.toInt
section XI
variable {p : Program} {l : Launch} {e : Env} {R : Room} {s : State} {m : MethodId} {args : Array Value} {below : List Frame} {meth : Method} {c : Code} {cells slots : Nat} {Q : State → Prop}
variable {D : va_G} {A : Nat → Prop} {H0 : Heap} {nL : Nat} {ws : va_W} {pc : Nat} {lv : List (Nat × Value)} {st : List Value} {cc : ByteArray} {Ts : List Cond} {own : String} {TY : List (ClassId × FieldType)}
theorem x_i2b (C : xC p s m args meth c D A H0 nL cc Ts own TY) {a : Int} (hd : decode cc pc = .ok (.i2b, 1)) (k : xW p l e R s m args below meth c D A H0 nL cells slots Q ws (pc + 1) lv (vI (iB a) :: st)) : xW p l e R s m args below meth c D A H0 nL cells slots Q ws pc lv (vI a :: st) :=
  fun H locs la hP hD hS hl => lv_i2b C.1 C.2.1 hd (v := Int32.ofInt (iB a)) (by rw [iB, xi_of]) (k H locs la hP hD hS hl)
end XI
theorem iB_nar (a : Int) : vp_nar .byte (Int32.ofInt (iB a)) = Int32.ofInt (iB a) := by
  rw [iB, xi_of, vp_nar_byte, Int8.toInt8_toInt32]
theorem iAnd_le (y : Int) {q : Int} (h : 0 ≤ q ∧ q ≤ 2147483647) : 0 ≤ iAnd y q ∧ iAnd y q ≤ q := by
  have e1 : (Int32.ofInt q).toBitVec.toNat = q.toNat := by
    have h2 := xi_toInt (a := q) ⟨by omega, by omega⟩
    have h3 : (Int32.ofInt q).toBitVec.toInt = q := h2
    rw [BitVec.toInt_eq_toNat_cond] at h3
    have h4 := (Int32.ofInt q).toBitVec.isLt
    split at h3 <;> omega
  have e2 : (Int32.ofInt y &&& Int32.ofInt q).toBitVec.toNat ≤ q.toNat := by
    rw [← e1, Int32.toBitVec_and, BitVec.toNat_and]
    exact Nat.and_le_right
  have e3 : iAnd y q = ((Int32.ofInt y &&& Int32.ofInt q).toBitVec.toNat : Int) := by
    show (Int32.ofInt y &&& Int32.ofInt q).toBitVec.toInt = _
    rw [BitVec.toInt_eq_toNat_cond, if_pos (by omega)]
  omega
theorem iShr_0 (k : Int) : iShr 0 k = 0 := by
  unfold iShr
  rw [show Int32.ofInt 0 = 0 by decide, Int32.zero_shiftRight]
  decide
theorem iAnd_0 (k : Int) : iAnd 0 k = 0 := by
  unfold iAnd
  rw [show Int32.ofInt 0 = 0 by decide, Int32.zero_and]
  decide
end
section
-- safety: every number of the store lies in its range; places that are watched keep what they hold
abbrev fullI : Int × Int := (-2147483648, 2147483647)
def rgP : Nat → Int × Int
  | 0 => (0, 1)
  | 6 => (0, 1)
  | _ => fullI
def rgE : Nat → Int × Int
  | 0 => (0, 1)
  | 2 => (0, 3)
  | _ => fullI
def rgT : Nat → Int × Int
  | 1 => (0, 200)
  | 5 => (0, 14)
  | _ => fullI
def rgC : Nat → Int × Int
  | 4 => (0, 475)
  | 5 => (0, 475)
  | 8 => (0, 3)
  | _ => fullI
def rgW : Nat → Int × Int
  | 4 => (0, 3)
  | 5 => (0, 3)
  | _ => fullI
def rgA : Nat → Int × Int
  | 3 => (0, 1)
  | _ => fullI
def rgLa (r k : Nat) : Int × Int := if r < 3 then fullI else if r < 11 then (if (r - 3) % 2 = 0 then rgP k else fullI) else rgE k
def rgTx (r k : Nat) : Int × Int := if r = 0 then rgT k else if r = 2 then (0, 65535) else fullI
def rgX (i k : Nat) : Int × Int :=
  if i = 0 then (0, 1)
  else if i < 58 then rgLa ((i - 1) % 19) k
  else if i = 58 then (0, 220)
  else if i < 61 then fullI
  else if i < 66 then rgTx (i - 61) k
  else if i < 69 then fullI
  else if i = 69 then rgA k
  else if i < 73 then fullI
  else if i < 98 then rgTx ((i - 73) % 5) k
  else if i = 98 then rgC k
  else if i < 101 then fullI
  else if i < 103 then (0, 474)
  else if i = 103 then (0, 7)
  else if i = 104 then fullI
  else if i = 105 then rgW k
  else if i = 106 then fullI
  else if i < 110 then (0, 7)
  else if i < 124 then (if i % 2 = 0 then rgP k else fullI)
  else if i = 124 then (0, 84)
  else fullI
/-- the watched places: told and card of the plants that are and that are kept; whether something is kept -/
def prX (i k : Nat) : Bool := (i == 0 && k == 3) || ((i == 4 || i == 6 || i == 8 || i == 10 || i == 23 || i == 25 || i == 27 || i == 29) && (k == 0 || k == 6))
abbrev subI (x : Int × Int) : Prop := -2147483648 ≤ x.1 ∧ x.2 ≤ 2147483647
theorem rgP_s (k : Nat) : subI (rgP k) := by unfold rgP; split <;> decide
theorem rgE_s (k : Nat) : subI (rgE k) := by unfold rgE; split <;> decide
theorem rgT_s (k : Nat) : subI (rgT k) := by unfold rgT; split <;> decide
theorem rgC_s (k : Nat) : subI (rgC k) := by unfold rgC; split <;> decide
theorem rgW_s (k : Nat) : subI (rgW k) := by unfold rgW; split <;> decide
theorem rgA_s (k : Nat) : subI (rgA k) := by unfold rgA; split <;> decide
theorem rgLa_s (r k : Nat) : subI (rgLa r k) := by
  unfold rgLa
  split
  · decide
  · split
    · split
      · exact rgP_s k
      · decide
    · exact rgE_s k
theorem rgTx_s (r k : Nat) : subI (rgTx r k) := by
  unfold rgTx
  split
  · exact rgT_s k
  · split <;> decide
theorem ite_s {q : Prop} {dq : Decidable q} {x y : Int × Int} (h1 : subI x) (h2 : subI y) : subI (if q then x else y) := by
  by_cases h : q
  · rw [if_pos h]; exact h1
  · rw [if_neg h]; exact h2
theorem rgX_s (i k : Nat) : subI (rgX i k) := by
  have f : subI fullI := by decide
  exact ite_s (by decide) (ite_s (rgLa_s _ _) (ite_s (by decide) (ite_s f (ite_s (rgTx_s _ _) (ite_s f (ite_s (rgA_s _) (ite_s f (ite_s (rgTx_s _ _) (ite_s (rgC_s _) (ite_s f (ite_s (by decide) (ite_s (by decide) (ite_s f (ite_s (rgW_s _) (ite_s f (ite_s (by decide) (ite_s (ite_s (rgP_s _) f) (ite_s (by decide) f))))))))))))))))))
abbrev isW (a : Nat) : Prop := a = 99 ∨ a = 100
abbrev isSt (a : Nat) : Prop := a = 101 ∨ a = 102
abbrev isWho (a : Nat) : Prop := a = 103 ∨ a = 107
def rfX (i k a : Nat) : Prop :=
  if i = 60 then (k = 0 → isTx a) else if i = 72 then (k = 1 → isTx a) else if i = 66 then (k < 4 → isTx a) else if i = 98 then ((k < 2 → isW a) ∧ (k = 2 ∨ k = 3 → isSt a)) else True
def XI (G V : Nat → Nat → Int) : Prop := ∀ i k : Nat, ((rgX i k).1 ≤ V i k ∧ V i k ≤ (rgX i k).2) ∧ (prX i k = true → V i k = G i k)
def XR (Rr : Nat → Nat → Nat) : Prop := ∀ i k : Nat, rfX i k (Rr i k)
/-- safe: a state of the class -/
def XS (G : Nat → Nat → Int) (u : xS) : Prop := XI G u.1 ∧ VJ u.2.1 ∧ XR u.2.2
theorem XI.rd {G V : Nat → Nat → Int} (h : XI G V) (i k : Nat) {x y : Int} (hr : rgX i k = (x, y)) : ∃ z : Int, V i k = z ∧ x ≤ z ∧ z ≤ y := by
  have := (h i k).1
  rw [hr] at this
  exact ⟨_, rfl, this⟩
theorem XI.up {G V W : Nat → Nat → Int} (h : XI G V) {i k : Nat} {a : Int} (hW : W = up2 V i k a) {x y : Int} (hr : rgX i k = (x, y)) (ha : x ≤ a ∧ a ≤ y) (hp : prX i k = false) : XI G W := by
  subst hW
  intro j q
  by_cases e : j = i ∧ q = k
  · obtain ⟨rfl, rfl⟩ := e
    rw [up2_s, hr]
    exact ⟨ha, fun hh => by rw [hp] at hh; cases hh⟩
  · rw [up2_n _ _ (by omega)]
    exact h j q
theorem XI.vr {G V : Nat → Nat → Int} (h : XI G V) : VR V := fun i k => ⟨Int.le_trans (rgX_s i k).1 (h i k).1.1, Int.le_trans (h i k).1.2 (rgX_s i k).2⟩
theorem VJ.rd {J : Nat → Nat → Int} (h : VJ J) (i k : Nat) : ∃ z : Int, J i k = z ∧ R64 z := ⟨_, rfl, h i k⟩
theorem VJ.upS {J W : Nat → Nat → Int} (h : VJ J) {i k : Nat} {a : Int} (hW : W = up2 J i k a) (ha : R64 a) : VJ W := by subst hW; exact VJ_up h ha
theorem XR.up {Rr W : Nat → Nat → Nat} (h : XR Rr) {i k a : Nat} (hW : W = up2 Rr i k a) (ha : rfX i k a) : XR W := by
  subst hW
  intro j q
  by_cases e : j = i ∧ q = k
  · obtain ⟨rfl, rfl⟩ := e
    rw [up2_s]
    exact ha
  · rw [up2_n _ _ (by omega)]
    exact h j q
theorem XR.law {Rr : Nat → Nat → Nat} (h : XR Rr) : ∃ t, Rr 60 0 = t ∧ isTx t := ⟨_, rfl, (h 60 0) rfl⟩
theorem XR.into {Rr : Nat → Nat → Nat} (h : XR Rr) : ∃ t, Rr 72 1 = t ∧ isTx t := ⟨_, rfl, (h 72 1) rfl⟩
theorem XR.rule {Rr : Nat → Nat → Nat} (h : XR Rr) {k : Nat} (hk : k < 4) : ∃ t, Rr 66 k = t ∧ isTx t := ⟨_, rfl, (h 66 k) hk⟩
theorem XR.w {Rr : Nat → Nat → Nat} (h : XR Rr) {k : Nat} (hk : k < 2) : ∃ t, Rr 98 k = t ∧ isW t := ⟨_, rfl, (h 98 k).1 hk⟩
theorem XR.st {Rr : Nat → Nat → Nat} (h : XR Rr) {k : Nat} (hk : k = 2 ∨ k = 3) : ∃ t, Rr 98 k = t ∧ isSt t := ⟨_, rfl, (h 98 k).2 hk⟩
theorem xd_Wt {w : Nat} (h : isW w) : xdsc w = .inr (1, 475, 1, 0, 0) := by rcases h with rfl | rfl <;> rfl
theorem xd_St {w : Nat} (h : isSt w) : xdsc w = .inr (0, 475, 0, 0, 0) := by rcases h with rfl | rfl <;> rfl
theorem rg_St {w : Nat} (h : isSt w) (k : Nat) : rgX w k = (0, 474) := by rcases h with rfl | rfl <;> rfl
theorem pr_St {w : Nat} (h : isSt w) (k : Nat) : prX w k = false := by rcases h with rfl | rfl <;> rfl
theorem xd_Who {w : Nat} (h : isWho w) : xdsc w = .inr (0, 3, 0, 0, 0) := by rcases h with rfl | rfl <;> rfl
theorem rg_Who {w : Nat} (h : isWho w) (k : Nat) : rgX w k = (0, 7) := by rcases h with rfl | rfl <;> rfl
theorem pr_Who {w : Nat} (h : isWho w) (k : Nat) : prX w k = false := by rcases h with rfl | rfl <;> rfl
abbrev plL : List Nat := [4, 6, 8, 10, 23, 25, 27, 29, 42, 44, 46, 48, 110, 112, 114, 116, 118, 120, 122]
def xkind : xD → Nat
  | .inl (n, _) => n
  | .inr _ => 99
theorem isPl_in0 : ∀ c : Nat, c < 129 → xkind (xdsc c) = 5 → c ∈ plL := by decide +kernel
theorem isPl_in (c : Nat) (h : c < 129) (hd : xdsc c = .inl (5, [0, 0, 0, 0, 0, 0, 0, 0, c + 4])) : c ∈ plL := isPl_in0 c h (by rw [hd]; rfl)
theorem rg_P {c : Nat} (h : isPl c) (k : Nat) : rgX c k = rgP k := by
  have hh := isPl_in c (by omega) h.2.1
  simp only [plL, List.mem_cons, List.not_mem_nil, or_false] at hh
  rcases hh with rfl | rfl | rfl | rfl | rfl | rfl | rfl | rfl | rfl | rfl | rfl | rfl | rfl | rfl | rfl | rfl | rfl | rfl | rfl <;> rfl
theorem rg_K {c : Nat} (h : isPl c) (k : Nat) : rgX (c + 1) k = fullI := by
  have hh := isPl_in c (by omega) h.2.1
  simp only [plL, List.mem_cons, List.not_mem_nil, or_false] at hh
  rcases hh with rfl | rfl | rfl | rfl | rfl | rfl | rfl | rfl | rfl | rfl | rfl | rfl | rfl | rfl | rfl | rfl | rfl | rfl | rfl <;> rfl
theorem pr_K {c : Nat} (h : isPl c) (k : Nat) : prX (c + 1) k = false := by
  have hh := isPl_in c (by omega) h.2.1
  simp only [plL, List.mem_cons, List.not_mem_nil, or_false] at hh
  rcases hh with rfl | rfl | rfl | rfl | rfl | rfl | rfl | rfl | rfl | rfl | rfl | rfl | rfl | rfl | rfl | rfl | rfl | rfl | rfl <;> rfl
theorem pr_P {c : Nat} (h : isPl c) {k : Nat} (h0 : (k == 0) = false) (h6 : (k == 6) = false) : prX c k = false := by
  have hh := isPl_in c (by omega) h.2.1
  have hc : (c == 0) = false := by
    cases hx : (c == 0) with
    | false => rfl
    | true =>
      have := eq_of_beq hx
      subst this
      revert hh; decide
  simp [prX, h0, h6, hc]
theorem rg_Pt {b l : Nat} (hb : isLa b) (hl : l < 4) (k : Nat) : rgX (b + 3 + 2 * l) k = rgP k := rg_P (isPl_L hb hl) k
abbrev peL : List Nat := [12, 13, 14, 15, 16, 17, 18, 19, 31, 32, 33, 34, 35, 36, 37, 38, 50, 51, 52, 53, 54, 55, 56, 57]
theorem isPe_in0 : ∀ c : Nat, c < 129 → xkind (xdsc c) = 4 → c ∈ peL := by decide +kernel
theorem isPe_in (c : Nat) (h : c < 129) (hd : xdsc c = .inl (4, [0, 0, 0, 0])) : c ∈ peL := isPe_in0 c h (by rw [hd]; rfl)
theorem rg_E {c : Nat} (h : isPe c) (k : Nat) : rgX c k = rgE k := by
  have hh := isPe_in c h.1 h.2
  simp only [peL, List.mem_cons, List.not_mem_nil, or_false] at hh
  rcases hh with rfl | rfl | rfl | rfl | rfl | rfl | rfl | rfl | rfl | rfl | rfl | rfl | rfl | rfl | rfl | rfl | rfl | rfl | rfl | rfl | rfl | rfl | rfl | rfl <;> rfl
theorem pr_E {c : Nat} (h : isPe c) (k : Nat) : prX c k = false := by
  have hh := isPe_in c h.1 h.2
  simp only [peL, List.mem_cons, List.not_mem_nil, or_false] at hh
  rcases hh with rfl | rfl | rfl | rfl | rfl | rfl | rfl | rfl | rfl | rfl | rfl | rfl | rfl | rfl | rfl | rfl | rfl | rfl | rfl | rfl | rfl | rfl | rfl | rfl <;> rfl
theorem rg_L {b : Nat} (h : isLa b) (k : Nat) : rgX b k = fullI := by rcases h with rfl | rfl | rfl <;> rfl
theorem pr_L {b : Nat} (h : isLa b) (k : Nat) : prX b k = false := by rcases h with rfl | rfl | rfl <;> rfl
theorem rg_T {t : Nat} (h : isTx t) (k : Nat) : rgX t k = rgT k := by rcases h with rfl | rfl | rfl | rfl | rfl | rfl <;> rfl
theorem rg_T1 {t : Nat} (h : isTx t) (k : Nat) : rgX (t + 1) k = fullI := by rcases h with rfl | rfl | rfl | rfl | rfl | rfl <;> rfl
theorem rg_T2 {t : Nat} (h : isTx t) (k : Nat) : rgX (t + 2) k = (0, 65535) := by rcases h with rfl | rfl | rfl | rfl | rfl | rfl <;> rfl
theorem rg_T3 {t : Nat} (h : isTx t) (k : Nat) : rgX (t + 3) k = fullI := by rcases h with rfl | rfl | rfl | rfl | rfl | rfl <;> rfl
theorem rg_T4 {t : Nat} (h : isTx t) (k : Nat) : rgX (t + 4) k = fullI := by rcases h with rfl | rfl | rfl | rfl | rfl | rfl <;> rfl
theorem pr_T {t : Nat} (h : isTx t) (k : Nat) : prX t k = false := by rcases h with rfl | rfl | rfl | rfl | rfl | rfl <;> rfl
theorem pr_T1 {t : Nat} (h : isTx t) (k : Nat) : prX (t + 1) k = false := by rcases h with rfl | rfl | rfl | rfl | rfl | rfl <;> rfl
theorem pr_T2 {t : Nat} (h : isTx t) (k : Nat) : prX (t + 2) k = false := by rcases h with rfl | rfl | rfl | rfl | rfl | rfl <;> rfl
theorem pr_T3 {t : Nat} (h : isTx t) (k : Nat) : prX (t + 3) k = false := by rcases h with rfl | rfl | rfl | rfl | rfl | rfl <;> rfl
theorem pr_T4 {t : Nat} (h : isTx t) (k : Nat) : prX (t + 4) k = false := by rcases h with rfl | rfl | rfl | rfl | rfl | rfl <;> rfl
/-- an answer of 0 or 1; what a 1 says -/
def Sp (z : Int) (P : Prop) : Prop := z = 0 ∨ z = 1 ∧ P
theorem Sp.r {z : Int} {P : Prop} (h : Sp z P) : 0 ≤ z ∧ z ≤ 1 := by rcases h with h | ⟨h, -⟩ <;> omega
theorem Sp.on {z : Int} {P : Prop} (h : Sp z P) (hz : ¬ z = 0) : P := by
  rcases h with h | ⟨-, h⟩
  · exact absurd h hz
  · exact h
theorem Sp.mono {z : Int} {P P2 : Prop} (h : Sp z P) (k : P → P2) : Sp z P2 := by
  rcases h with h | ⟨h, hp⟩
  · exact Or.inl h
  · exact Or.inr ⟨h, k hp⟩
theorem tdiv_b (a : Int) {b : Int} (hb : 0 < b) : (0 ≤ a → 0 ≤ a.tdiv b ∧ a.tdiv b ≤ a) ∧ (a < 0 → a ≤ a.tdiv b ∧ a.tdiv b ≤ 0) := by
  have pos : ∀ x : Int, 0 ≤ x → 0 ≤ x.tdiv b ∧ x.tdiv b ≤ x := fun x hx => by
    rw [Int.tdiv_eq_ediv_of_nonneg hx]
    exact ⟨Int.ediv_nonneg hx (by omega), Int.ediv_le_self _ hx⟩
  refine ⟨pos a, fun h => ?_⟩
  have := pos (-a) (by omega)
  rw [Int.neg_tdiv] at this
  omega
theorem tmod_b (a : Int) {b : Int} (hb : 0 < b) : (0 ≤ a → 0 ≤ a.tmod b ∧ a.tmod b < b) ∧ (a < 0 → -b < a.tmod b ∧ a.tmod b ≤ 0) := by
  have pos : ∀ x : Int, 0 ≤ x → 0 ≤ x.tmod b ∧ x.tmod b < b := fun x hx => by
    rw [Int.tmod_eq_emod_of_nonneg hx]
    exact ⟨Int.emod_nonneg _ (by omega), Int.emod_lt_of_pos _ hb⟩
  refine ⟨pos a, fun h => ?_⟩
  have := pos (-a) (by omega)
  rw [Int.neg_tmod] at this
  omega
theorem iDivE {a b : Int} (ha : R32 a) (hb : 0 < b ∧ b ≤ 2147483647) : Int32.ofInt a / Int32.ofInt b = Int32.ofInt (a.tdiv b) := by
  have h := tdiv_b a hb.1
  have hn : Int32.ofInt b ≠ -1 := fun e => by
    have e := congrArg Int32.toInt e
    rw [xi_toInt ⟨by omega, by omega⟩, show (-1 : Int32).toInt = -1 by decide] at e
    omega
  refine Int32.toInt_inj.mp ?_
  rw [Int32.toInt_div_of_ne_right _ _ hn, xi_toInt ha, xi_toInt (a := b) ⟨by omega, by omega⟩, xi_toInt]
  rcases Int.lt_or_le a 0 with g | g
  · have := h.2 g; exact ⟨by omega, by omega⟩
  · have := h.1 g; exact ⟨by omega, by omega⟩
theorem iDiv_e {a b : Int} (ha : R32 a) (hb : 0 < b ∧ b ≤ 2147483647) : iDiv a b = a.tdiv b := by
  have h := tdiv_b a hb.1
  rw [iDiv, iDivE ha hb, xi_toInt]
  rcases Int.lt_or_le a 0 with g | g
  · have := h.2 g; exact ⟨by omega, by omega⟩
  · have := h.1 g; exact ⟨by omega, by omega⟩
theorem iRem_e {a b : Int} (ha : R32 a) (hb : 0 < b ∧ b ≤ 2147483647) : iRem a b = a.tmod b := by
  have h := tmod_b a hb.1
  rw [iRem, iDivE ha hb, ← Int32.ofInt_mul, ← Int32.ofInt_sub, show a - a.tdiv b * b = a.tmod b by rw [Int.tmod_def, Int.mul_comm]]
  rw [xi_toInt]
  rcases Int.lt_or_le a 0 with g | g
  · have := h.2 g; exact ⟨by omega, by omega⟩
  · have := h.1 g; exact ⟨by omega, by omega⟩
theorem iDiv_n {a b A : Int} (ha : 0 ≤ a ∧ a ≤ A ∧ A ≤ 2147483647) (hb : 0 < b ∧ b ≤ 2147483647) : 0 ≤ iDiv a b ∧ iDiv a b ≤ A := by
  rw [iDiv_e ⟨by omega, by omega⟩ hb]
  have := (tdiv_b a hb.1).1 ha.1
  omega
theorem iRem_n {a b B : Int} (ha : 0 ≤ a ∧ a ≤ 2147483647) (hb : 0 < b ∧ b ≤ B + 1 ∧ b ≤ 2147483647) : 0 ≤ iRem a b ∧ iRem a b ≤ B := by
  rw [iRem_e ⟨by omega, by omega⟩ ⟨by omega, by omega⟩]
  have := (tmod_b a hb.1).1 ha.1
  omega
theorem iRem_m {a b B : Int} (ha : R32 a) (hb : 0 < b ∧ b ≤ B + 1 ∧ b ≤ 2147483647) : -B ≤ iRem a b ∧ iRem a b ≤ B := by
  rw [iRem_e ha ⟨by omega, by omega⟩]
  have := tmod_b a hb.1
  rcases Int.lt_or_le a 0 with g | g
  · have := this.2 g; omega
  · have := this.1 g; omega
theorem iAnd_leB (y : Int) {q B : Int} (h : 0 ≤ q ∧ q ≤ B ∧ B ≤ 2147483647) : 0 ≤ iAnd y q ∧ iAnd y q ≤ B := by
  have := iAnd_le y (q := q) (by omega)
  omega
theorem iAnd_comm (x y : Int) : iAnd x y = iAnd y x := by
  unfold iAnd
  rw [Int32.and_comm]
theorem iAnd_leA (y : Int) {q B : Int} (h : 0 ≤ q ∧ q ≤ B ∧ B ≤ 2147483647) : 0 ≤ iAnd q y ∧ iAnd q y ≤ B := by
  rw [iAnd_comm]
  exact iAnd_leB y h
theorem mulB {x y A B : Int} (hx : 0 ≤ x ∧ x ≤ A) (hy : 0 ≤ y ∧ y ≤ B) : ∃ z : Int, x * y = z ∧ (0 ≤ z ∧ z ≤ A * B) :=
  ⟨_, rfl, Int.mul_nonneg hx.1 hy.1, Int.mul_le_mul hx.2 hy.2 hy.1 (by omega)⟩
theorem iB_r (a : Int) : -128 ≤ iB a ∧ iB a ≤ 127 := by
  unfold iB
  generalize (Int32.ofInt a).toInt8 = v
  rw [Int8.toInt_toInt32]
  have h1 := v.le_toInt
  have h2 := v.toInt_lt
  omega
theorem iB_nar2 {a : Int} (h : -128 ≤ a ∧ a ≤ 127) : vp_nar .byte (Int32.ofInt a) = Int32.ofInt a := by
  rw [vp_nar_byte]
  refine Int32.toInt_inj.mp ?_
  rw [Int8.toInt_toInt32, Int32.toInt_toInt8, xi_toInt ⟨by omega, by omega⟩]
  rw [Int.bmod_eq_of_le] <;> omega
theorem lcI_r2 (x y : Int) : -1 ≤ lcI x y ∧ lcI x y ≤ 1 := by
  unfold lcI
  split
  · omega
  · split <;> omega
theorem XI.cp {G V W : Nat → Nat → Int} (h : XI G V) {i sp j dp n : Nat} (hW : W = cpV V i sp j dp n) {x y : Int} (hi : ∀ k, rgX i k = (x, y)) (hj : ∀ k, rgX j k = (x, y)) (hp : ∀ k, prX j k = false) : XI G W := by
  subst hW
  intro q k
  unfold cpV
  split
  · next hh =>
    obtain ⟨rfl, -, -⟩ := hh
    have := (h i (sp + (k - dp))).1
    rw [hi] at this
    rw [hj, hp]
    exact ⟨this, fun hh => by cases hh⟩
  · exact h q k
theorem isPl_Wk {d : Nat} (h : d < 7) : isPl (110 + 2 * d) := by
  have : d = 0 ∨ d = 1 ∨ d = 2 ∨ d = 3 ∨ d = 4 ∨ d = 5 ∨ d = 6 := by omega
  rcases this with rfl | rfl | rfl | rfl | rfl | rfl | rfl <;> exact ⟨by decide, rfl, rfl⟩
def jDiv (a b : Int) : Int := (Int64.ofInt a / Int64.ofInt b).toInt
def jRem (a b : Int) : Int := (Int64.ofInt a - Int64.ofInt a / Int64.ofInt b * Int64.ofInt b).toInt
def iL (a : Int) : Int := (Int64.ofInt a).toInt32.toInt
def iC (a : Int) : Int := ((Int32.ofInt a).toUInt32 % 65536).toInt32.toInt
theorem iC_r (a : Int) : 0 ≤ iC a ∧ iC a ≤ 65535 := by
  unfold iC
  generalize (Int32.ofInt a).toUInt32 = v
  have h : (v % 65536).toNat < 65536 := by
    rw [UInt32.toNat_mod]
    exact Nat.mod_lt _ (by decide)
  have : (v % 65536).toInt32.toInt = ((v % 65536).toNat : Int) := by
    show (v % 65536).toBitVec.toInt = _
    rw [BitVec.toInt_eq_toNat_cond]
    have : (v % 65536).toBitVec.toNat = (v % 65536).toNat := rfl
    rw [if_pos (by omega), this]
  omega
section XSF
variable {p : Program} {l : Launch} {e : Env} {R : Room} {s : State} {m : MethodId} {args : Array Value} {below : List Frame} {meth : Method} {c : Code} {cells slots : Nat} {Q : State → Prop}
variable {D : va_G} {A : Nat → Prop} {H0 : Heap} {nL : Nat} {ws : va_W} {pc : Nat} {lv : List (Nat × Value)} {st : List Value} {cc : ByteArray} {Ts : List Cond} {own : String} {TY : List (ClassId × FieldType)}
theorem x_wrapg {z : Int} (k : ∀ y : Int, R32 y → y = wr z → xW p l e R s m args below meth c D A H0 nL cells slots Q ws pc lv (vI y :: st)) : xW p l e R s m args below meth c D A H0 nL cells slots Q ws pc lv (vI z :: st) :=
  x_wrap (k _ (wr_r z) rfl)
theorem x_wrapl {z : Int} {i : Nat} {lv0 : List (Nat × Value)} (k : ∀ y : Int, R32 y → y = wr z → xW p l e R s m args below meth c D A H0 nL cells slots Q ws pc ((i, vI y) :: lv0) st) : xW p l e R s m args below meth c D A H0 nL cells slots Q ws pc ((i, vI z) :: lv0) st := by
  have k := k _ (wr_r z) rfl
  rw [vI, wr, xi_of] at k
  exact k
theorem x_wrapJ {z : Int} (k : ∀ y : Int, R64 y → xW p l e R s m args below meth c D A H0 nL cells slots Q ws pc lv (vJ y :: st)) : xW p l e R s m args below meth c D A H0 nL cells slots Q ws pc lv (vJ z :: st) := by
  have k := k (Int64.ofInt z).toInt (xj_r _)
  rw [vJ, xj_of] at k
  exact k
theorem x_ldiv (C : xC p s m args meth c D A H0 nL cc Ts own TY) {a b v : Int} (hv : jDiv a b = v) (hd : decode cc pc = .ok (.ldiv, 1)) (hb : R64 b) (hne : ¬ b = 0) (k : xW p l e R s m args below meth c D A H0 nL cells slots Q ws (pc + 1) lv (vJ v :: st)) : xW p l e R s m args below meth c D A H0 nL cells slots Q ws pc lv (vJ b :: vJ a :: st) :=
  fun H locs la hP hD hS hl => lv_ldiv C.1 C.2.1 hd (fun h => hne ((xj_eq hb (by decide)).mp h)) (by have k := k H locs la hP hD hS hl; simp only [vJ, ← hv, jDiv, xj_of] at k; exact k)
theorem x_lrem (C : xC p s m args meth c D A H0 nL cc Ts own TY) {a b v : Int} (hv : jRem a b = v) (hd : decode cc pc = .ok (.lrem, 1)) (hb : R64 b) (hne : ¬ b = 0) (k : xW p l e R s m args below meth c D A H0 nL cells slots Q ws (pc + 1) lv (vJ v :: st)) : xW p l e R s m args below meth c D A H0 nL cells slots Q ws pc lv (vJ b :: vJ a :: st) :=
  fun H locs la hP hD hS hl => lv_lrem C.1 C.2.1 hd (fun h => hne ((xj_eq hb (by decide)).mp h)) (by have k := k H locs la hP hD hS hl; simp only [vJ, ← hv, jRem, xj_of] at k; exact k)
theorem x_l2i (C : xC p s m args meth c D A H0 nL cc Ts own TY) {a : Int} (hd : decode cc pc = .ok (.l2i, 1)) (k : xW p l e R s m args below meth c D A H0 nL cells slots Q ws (pc + 1) lv (vI (iL a) :: st)) : xW p l e R s m args below meth c D A H0 nL cells slots Q ws pc lv (vJ a :: st) :=
  fun H locs la hP hD hS hl => lv_l2i C.1 C.2.1 hd (v := Int32.ofInt (iL a)) (by rw [iL, xi_of]) (k H locs la hP hD hS hl)
theorem x_i2c (C : xC p s m args meth c D A H0 nL cc Ts own TY) {a : Int} (hd : decode cc pc = .ok (.i2c, 1)) (k : xW p l e R s m args below meth c D A H0 nL cells slots Q ws (pc + 1) lv (vI (iC a) :: st)) : xW p l e R s m args below meth c D A H0 nL cells slots Q ws pc lv (vI a :: st) :=
  fun H locs la hP hD hS hl => lv_i2c C.1 C.2.1 hd (v := Int32.ofInt (iC a)) (by rw [iC, xi_of]) (k H locs la hP hD hS hl)
theorem x_dup2 (C : xC p s m args meth c D A H0 nL cc Ts own TY) {v w : Value} (hd : decode cc pc = .ok (.dup2, 1)) (hv : v.category = 1) (hw : w.category = 1) (k : xW p l e R s m args below meth c D A H0 nL cells slots Q ws (pc + 1) lv (v :: w :: v :: w :: st)) : xW p l e R s m args below meth c D A H0 nL cells slots Q ws pc lv (v :: w :: st) :=
  fun H locs la hP hD hS hl => lv_dup2_11 C.1 C.2.1 hd hv hw (k H locs la hP hD hS hl)
theorem x_pop2 (C : xC p s m args meth c D A H0 nL cc Ts own TY) {v : Value} (hd : decode cc pc = .ok (.pop2, 1)) (hv : v.category = 2) (k : xW p l e R s m args below meth c D A H0 nL cells slots Q ws (pc + 1) lv st) : xW p l e R s m args below meth c D A H0 nL cells slots Q ws pc lv (v :: st) :=
  fun H locs la hP hD hS hl => lv_pop2_2 C.1 C.2.1 hd hv (k H locs la hP hD hS hl)
theorem x_join {σ : Type} (I : σ → Prop) (wsf : σ → va_W) (lvf : σ → List (Nat × Value)) (stf : σ → List Value) (tgt : Nat) (kj : ∀ x : σ, I x → xW p l e R s m args below meth c D A H0 nL cells slots Q (wsf x) tgt (lvf x) (stf x)) (kk : (∀ x : σ, I x → xW p l e R s m args below meth c D A H0 nL cells slots Q (wsf x) tgt (lvf x) (stf x)) → xW p l e R s m args below meth c D A H0 nL cells slots Q ws pc lv st) : xW p l e R s m args below meth c D A H0 nL cells slots Q ws pc lv st := kk kj
variable {N : Nat} {dsc : Nat → xD} {cy : Nat → ClassId} {ad : Nat → Nat} {V J : Nat → Nat → Int} {Rr : Nat → Nat → Nat}
theorem x_gV (k : ∀ W : Nat → Nat → Int, W = V → xW p l e R s m args below meth c D A H0 nL cells slots Q (xw N dsc cy ad W J Rr) pc lv st) : xW p l e R s m args below meth c D A H0 nL cells slots Q (xw N dsc cy ad V J Rr) pc lv st := k _ rfl
theorem x_gJ (k : ∀ W : Nat → Nat → Int, W = J → xW p l e R s m args below meth c D A H0 nL cells slots Q (xw N dsc cy ad V W Rr) pc lv st) : xW p l e R s m args below meth c D A H0 nL cells slots Q (xw N dsc cy ad V J Rr) pc lv st := k _ rfl
theorem x_gR (k : ∀ W : Nat → Nat → Nat, W = Rr → xW p l e R s m args below meth c D A H0 nL cells slots Q (xw N dsc cy ad V J W) pc lv st) : xW p l e R s m args below meth c D A H0 nL cells slots Q (xw N dsc cy ad V J Rr) pc lv st := k _ rfl
end XSF
end
section
section XMA
variable {p : Program} {l : Launch} {e : Env} {R : Room} {s : State} {m : MethodId} {args : Array Value} {below : List Frame} {meth : Method} {c : Code} {cells slots : Nat} {Q : State → Prop}
variable {D : va_G} {A : Nat → Prop} {H0 : Heap} {nL : Nat} {ws : va_W} {pc : Nat} {lv : List (Nat × Value)} {st : List Value} {cc : ByteArray} {own : String} {TY : List (ClassId × FieldType)}
theorem x_mmax (C : xC2 p s m args meth c D A H0 nL cc own TY) {index : Nat} (hlink : Cond.methodLink own index yJ9_max_7cf53 ∈ WG) {x y : Int} (hx : R32 x) (hy : R32 y) (hd : decode cc pc = .ok (.invokestatic index, 3)) (hR : 1 ≤ R.frames ∧ 21 ≤ R.locals) (hW : (st.map fun v => v.category).sum ≤ 8) (hf : cells ≤ R.cells ∧ slots ≤ R.slots)
    (kk : ∀ z : Int, ((z = x ∧ y ≤ x) ∨ (z = y ∧ x ≤ y)) → xW p l e R s m args below meth c D A H0 nL cells slots Q ws (pc + 3) lv (vI z :: st)) : xW p l e R s m args below meth c D A H0 nL cells slots Q ws pc lv (vI y :: vI x :: st) := by
  intro H locs la hP hD hS hl
  refine va_mmax C.1.1 C.1.2.1 (C.1.2.2.1.trans hl.1.symm) C.1.2.2.2.1 (C.1.2.2.2.2.1 _ hlink) (C.1.2.2.2.2.1 _ wi_yJ9_max_7cf53) (C.1.2.2.2.2.1 _ wn_J9) (C.1.2.2.2.2.1 _ wm_yJ9_max_7cf53) hR.1 (by omega) hf.1 hf.2 hd ?_
  by_cases h : x < y
  · rw [if_pos ((xi_lt hx hy).mpr h)]
    exact kk y (Or.inr ⟨rfl, by omega⟩) H locs la hP hD hS hl
  · rw [if_neg (fun h2 => h ((xi_lt hx hy).mp h2))]
    exact kk x (Or.inl ⟨rfl, by omega⟩) H locs la hP hD hS hl
theorem x_mmin (C : xC2 p s m args meth c D A H0 nL cc own TY) {index : Nat} (hlink : Cond.methodLink own index yJ9_min_7cf53 ∈ WG) {x y : Int} (hx : R32 x) (hy : R32 y) (hd : decode cc pc = .ok (.invokestatic index, 3)) (hR : 1 ≤ R.frames ∧ 21 ≤ R.locals) (hW : (st.map fun v => v.category).sum ≤ 8) (hf : cells ≤ R.cells ∧ slots ≤ R.slots)
    (kk : ∀ z : Int, ((z = x ∧ x ≤ y) ∨ (z = y ∧ y ≤ x)) → xW p l e R s m args below meth c D A H0 nL cells slots Q ws (pc + 3) lv (vI z :: st)) : xW p l e R s m args below meth c D A H0 nL cells slots Q ws pc lv (vI y :: vI x :: st) := by
  intro H locs la hP hD hS hl
  refine va_mmin C.1.1 C.1.2.1 (C.1.2.2.1.trans hl.1.symm) C.1.2.2.2.1 (C.1.2.2.2.2.1 _ hlink) (C.1.2.2.2.2.1 _ wi_yJ9_min_7cf53) (C.1.2.2.2.2.1 _ wn_J9) (C.1.2.2.2.2.1 _ wm_yJ9_min_7cf53) hR.1 (by omega) hf.1 hf.2 hd ?_
  by_cases h : y < x
  · first | rw [if_pos ((xi_lt hy hx).mpr h)] | rw [if_neg (fun h2 => absurd ((xi_lt hx hy).mp h2) (by omega))]
    exact kk y (Or.inr ⟨rfl, by omega⟩) H locs la hP hD hS hl
  · by_cases h3 : x < y
    · first | rw [if_neg (fun h2 => h ((xi_lt hy hx).mp h2))] | rw [if_pos ((xi_lt hx hy).mpr h3)]
      exact kk x (Or.inl ⟨rfl, by omega⟩) H locs la hP hD hS hl
    · have e : x = y := by omega
      subst e
      have : ∀ q : Prop, ∀ dq : Decidable q, (if q then (Int32.ofInt x) else (Int32.ofInt x)) = Int32.ofInt x := fun q dq => by split <;> rfl
      rw [this]
      exact kk x (Or.inl ⟨rfl, by omega⟩) H locs la hP hD hS hl
end XMA
/-- an answer of 1 or 0, by P -/
def Sq (z : Int) (P : Prop) : Prop := z = 1 ∧ P ∨ z = 0 ∧ ¬ P
theorem Sq.r {z : Int} {P : Prop} (h : Sq z P) : 0 ≤ z ∧ z ≤ 1 := by rcases h with ⟨h, -⟩ | ⟨h, -⟩ <;> omega
theorem Sq.on {z : Int} {P : Prop} (h : Sq z P) (hz : ¬ z = 0) : P := by
  rcases h with ⟨-, h⟩ | ⟨h, -⟩
  · exact h
  · exact absurd h hz
theorem Sq.off {z : Int} {P : Prop} (h : Sq z P) (hz : z = 0) : ¬ P := by
  rcases h with ⟨h, -⟩ | ⟨-, h⟩
  · omega
  · exact h
end
section
/-- as XI; the texts' numbers of clauses are watched too -/
def prT (i k : Nat) : Bool := prX i k || ((i == 61 || i == 73 || i == 78 || i == 83 || i == 88 || i == 93) && k == 5)
def TI (G V : Nat → Nat → Int) : Prop := ∀ i k : Nat, ((rgX i k).1 ≤ V i k ∧ V i k ≤ (rgX i k).2) ∧ (prT i k = true → V i k = G i k)
theorem TI.toX {G V : Nat → Nat → Int} (h : TI G V) : XI G V := fun i k => ⟨(h i k).1, fun hh => (h i k).2 (by rw [prT, hh]; rfl)⟩
theorem TI.rd {G V : Nat → Nat → Int} (h : TI G V) (i k : Nat) {x y : Int} (hr : rgX i k = (x, y)) : ∃ z : Int, V i k = z ∧ x ≤ z ∧ z ≤ y := h.toX.rd i k hr
theorem TI.up {G V W : Nat → Nat → Int} (h : TI G V) {i k : Nat} {a : Int} (hW : W = up2 V i k a) {x y : Int} (hr : rgX i k = (x, y)) (ha : x ≤ a ∧ a ≤ y) (hp : prT i k = false) : TI G W := by
  subst hW
  intro j q
  by_cases e : j = i ∧ q = k
  · obtain ⟨rfl, rfl⟩ := e
    rw [up2_s, hr]
    exact ⟨ha, fun hh => by rw [hp] at hh; cases hh⟩
  · rw [up2_n _ _ (by omega)]
    exact h j q
theorem XI.toT {G V : Nat → Nat → Int} (h : XI G V) : TI V V := fun i k => ⟨(h i k).1, fun _ => rfl⟩
theorem TI.back {G V W : Nat → Nat → Int} (h : XI G V) (g : TI V W) : XI G W := fun i k => ⟨(g i k).1, fun hh => ((g i k).2 (by rw [prT, hh]; rfl)).trans ((h i k).2 hh)⟩
theorem TI.self {G V : Nat → Nat → Int} (h : TI G V) : TI V V := fun i k => ⟨(h i k).1, fun _ => rfl⟩
theorem TI.keep {V W : Nat → Nat → Int} (h : TI V W) {t : Nat} (ht : isTx t) : W t 5 = V t 5 := (h t 5).2 (by rcases ht with rfl | rfl | rfl | rfl | rfl | rfl <;> rfl)
theorem prT_T {t : Nat} (h : isTx t) {k : Nat} (h5 : (k == 5) = false) : prT t k = false := by
  rw [prT, pr_T h, h5]
  simp
theorem prT_T1 {t : Nat} (h : isTx t) (k : Nat) : prT (t + 1) k = false := by
  rcases h with rfl | rfl | rfl | rfl | rfl | rfl <;> rfl
theorem pr_39 {c q : Nat} (h : 39 + 3 + 2 * q = c) (hq : q < 4) (k : Nat) : prX c k = false := by
  have : q = 0 ∨ q = 1 ∨ q = 2 ∨ q = 3 := by omega
  subst h
  rcases this with rfl | rfl | rfl | rfl <;> rfl
theorem pr_Wk {c d : Nat} (h : 110 + 2 * d = c) (hd : d < 7) (k : Nat) : prX c k = false := by
  have : d = 0 ∨ d = 1 ∨ d = 2 ∨ d = 3 ∨ d = 4 ∨ d = 5 ∨ d = 6 := by omega
  subst h
  rcases this with rfl | rfl | rfl | rfl | rfl | rfl | rfl <;> rfl
theorem iC_nar {a : Int} (h : 0 ≤ a ∧ a ≤ 65535) : vp_nar .char (Int32.ofInt a) = Int32.ofInt a := by
  have e1 : (Int32.ofInt a).toBitVec.toNat = a.toNat := by
    have h3 : (Int32.ofInt a).toBitVec.toInt = a := xi_toInt (a := a) ⟨by omega, by omega⟩
    rw [BitVec.toInt_eq_toNat_cond] at h3
    have h4 := (Int32.ofInt a).toBitVec.isLt
    split at h3 <;> omega
  rw [vp_nar_char]
  refine Int32.toBitVec_inj.mp (BitVec.eq_of_toNat_eq ?_)
  show (Int32.ofInt a).toUInt32.toUInt16.toUInt32.toNat = _
  rw [UInt16.toNat_toUInt32, UInt32.toNat_toUInt16]
  show (Int32.ofInt a).toBitVec.toNat % 65536 = _
  rw [e1]
  omega
theorem rf_w {k a : Nat} (hk : k < 2) (h : isW a) : rfX 98 k a := by
  show (k < 2 → isW a) ∧ (k = 2 ∨ k = 3 → isSt a)
  exact ⟨fun _ => h, fun h => by omega⟩
theorem rf_s {k a : Nat} (hk : k = 2 ∨ k = 3) (h : isSt a) : rfX 98 k a := by
  show (k < 2 → isW a) ∧ (k = 2 ∨ k = 3 → isSt a)
  exact ⟨fun h => by omega, fun _ => h⟩
theorem rf_law {a : Nat} (h : isTx a) : rfX 60 0 a := fun _ => h
theorem rf_into {a : Nat} (h : isTx a) : rfX 72 1 a := fun _ => h
theorem rf_rule {k a : Nat} (h : isTx a) : rfX 66 k a := fun _ => h
end
section
-- frames: what a method does not change
def FB (P : Nat → Nat → Prop) (V W : Nat → Nat → Int) : Prop := ∀ i k : Nat, ¬ P i k → W i k = V i k
section XFB
variable {P P2 : Nat → Nat → Prop} {V W X : Nat → Nat → Int} {i k : Nat} {a : Int}
theorem FB.rf (P : Nat → Nat → Prop) (V : Nat → Nat → Int) : FB P V V := fun _ _ _ => rfl
theorem FB.up (h : FB P V W) (hX : X = up2 W i k a) (hp : P i k) : FB P V X := by
  subst hX
  intro j q hj
  by_cases e : j = i ∧ q = k
  · obtain ⟨rfl, rfl⟩ := e
    exact absurd hp hj
  · rw [up2_n _ _ (by omega)]
    exact h j q hj
theorem FB.tr (h : FB P V W) (h2 : FB P2 W X) (hs : ∀ i k, P2 i k → P i k) : FB P V X := fun i k hi => (h2 i k (fun hh => hi (hs i k hh))).trans (h i k hi)
theorem FB.cp (h : FB P V W) {sp j dp n : Nat} (hX : X = cpV W i sp j dp n) (hp : ∀ k, P j k) : FB P V X := by
  subst hX
  intro q r hq
  unfold cpV
  split
  · next hh =>
    obtain ⟨rfl, -, -⟩ := hh
    exact absurd (hp r) hq
  · exact h q r hq
def mkey (i k : Nat) : Nat := if i = 0 then k else 64 + i
theorem mkey_r {i k : Nat} (h : i ≠ 0) : mkey i k = 64 + i := if_neg h
def FBm (m : Nat) (V W : Nat → Nat → Int) : Prop := ∀ i k : Nat, m.testBit (mkey i k) = false → W i k = V i k
theorem FBm.rf (m : Nat) (V : Nat → Nat → Int) : FBm m V V := fun _ _ _ => rfl
theorem FBm.up {m : Nat} (h : FBm m V W) (hX : X = up2 W i k a) (ht : m.testBit (mkey i k) = true) : FBm m V X := by
  subst hX
  intro j q hj
  by_cases e : j = i ∧ q = k
  · obtain ⟨rfl, rfl⟩ := e
    rw [ht] at hj
    cases hj
  · rw [up2_n _ _ (by omega)]
    exact h j q hj
theorem FBm.tr {m1 : Nat} (h : FBm m1 V W) {m : Nat} (h2 : FBm m W X) (hs : m &&& m1 = m) : FBm m1 V X := fun i k hi => by
  refine (h2 i k ?_).trans (h i k hi)
  rw [← hs, Nat.testBit_and, hi, Bool.and_false]
end XFB
-- what a method does, as a relation: steps
def Imp {ρ : Type} (A B : ρ → Prop) : Prop := ∀ r : ρ, A r → B r
theorem Imp.of_eq {ρ : Type} {A B : ρ → Prop} (h : A = B) : Imp B A := fun r hb => by rw [h]; exact hb
theorem Imp.to {ρ : Type} {A B F : ρ → Prop} (h : Imp A F) (e : A = B) : Imp B F := fun r hb => h r (by rw [e]; exact hb)
def rtn {ρ : Type} (x : ρ) : ρ → Prop := fun r => r = x
def rdb {α ρ : Type} (x : α) (k : α → ρ → Prop) : ρ → Prop := k x
theorem rdb_e {α ρ : Type} {x z : α} {k : α → ρ → Prop} (h : x = z) : rdb x k = k z := by rw [rdb, h]
def fct {ρ : Type} (p : Prop) (k : ρ → Prop) : ρ → Prop := fun r => p ∧ k r
theorem Imp.fc {ρ : Type} {p : Prop} {k F : ρ → Prop} (h : Imp (fct p k) F) (hp : p) : Imp k F := fun r hk => h r ⟨hp, hk⟩
def jnk {α ρ : Type} (k : α) (f : α → ρ → Prop) : ρ → Prop := f k
theorem jn_ex {α ρ : Type} {F : ρ → Prop} {k : α} {f : α → ρ → Prop} (h : Imp (jnk k f) F) : ∃ j : α, j = k ∧ Imp (f j) F := ⟨k, rfl, h⟩
def calR {α ρ : Type} (C : α → Prop) (k : α → ρ → Prop) : ρ → Prop := fun r => ∃ z : α, C z ∧ k z r
theorem calR_i {α ρ : Type} {C : α → Prop} {k : α → ρ → Prop} {F : ρ → Prop} {z : α} (h : Imp (calR C k) F) (hc : C z) : Imp (k z) F := fun r hk => h r ⟨z, hc, hk⟩
def calVX {α ρ : Type} (P : Nat → Nat → Prop) (V : Nat → Nat → Int) (C : α × (Nat → Nat → Int) → Prop) (k : α → (Nat → Nat → Int) → ρ → Prop) : ρ → Prop := fun r => ∃ (z : α) (U : Nat → Nat → Int), C (z, U) ∧ FB P V U ∧ k z U r
theorem calVX_i {α ρ : Type} {P : Nat → Nat → Prop} {V U : Nat → Nat → Int} {C : α × (Nat → Nat → Int) → Prop} {k : α → (Nat → Nat → Int) → ρ → Prop} {F : ρ → Prop} {z : α} (h : Imp (calVX P V C k) F) (hc : C (z, U)) (hb : FB P V U) : Imp (k z U) F := fun r hk => h r ⟨z, U, hc, hb, hk⟩
def calUX {ρ : Type} (P : Nat → Nat → Prop) (V : Nat → Nat → Int) (C : (Nat → Nat → Int) → Prop) (k : (Nat → Nat → Int) → ρ → Prop) : ρ → Prop := fun r => ∃ U : Nat → Nat → Int, C U ∧ FB P V U ∧ k U r
theorem calUX_i {ρ : Type} {P : Nat → Nat → Prop} {V U : Nat → Nat → Int} {C : (Nat → Nat → Int) → Prop} {k : (Nat → Nat → Int) → ρ → Prop} {F : ρ → Prop} (h : Imp (calUX P V C k) F) (hc : C U) (hb : FB P V U) : Imp (k U) F := fun r hk => h r ⟨U, hc, hb, hk⟩
def calSX {α ρ : Type} (P : Nat → Nat → Prop) (V : Nat → Nat → Int) (C : α × xS → Prop) (k : α → (Nat → Nat → Int) → (Nat → Nat → Int) → (Nat → Nat → Nat) → ρ → Prop) : ρ → Prop := fun r => ∃ (z : α) (U J : Nat → Nat → Int) (R : Nat → Nat → Nat), C (z, (U, J, R)) ∧ FB P V U ∧ k z U J R r
theorem calSX_i {α ρ : Type} {P : Nat → Nat → Prop} {V U J : Nat → Nat → Int} {R : Nat → Nat → Nat} {C : α × xS → Prop} {k : α → (Nat → Nat → Int) → (Nat → Nat → Int) → (Nat → Nat → Nat) → ρ → Prop} {F : ρ → Prop} {z : α} (h : Imp (calSX P V C k) F) (hc : C (z, (U, J, R))) (hb : FB P V U) : Imp (k z U J R) F := fun r hk => h r ⟨z, U, J, R, hc, hb, hk⟩
def calTX {ρ : Type} (P : Nat → Nat → Prop) (V : Nat → Nat → Int) (C : xS → Prop) (k : (Nat → Nat → Int) → (Nat → Nat → Int) → (Nat → Nat → Nat) → ρ → Prop) : ρ → Prop := fun r => ∃ (U J : Nat → Nat → Int) (R : Nat → Nat → Nat), C (U, J, R) ∧ FB P V U ∧ k U J R r
theorem calTX_i {ρ : Type} {P : Nat → Nat → Prop} {V U J : Nat → Nat → Int} {R : Nat → Nat → Nat} {C : xS → Prop} {k : (Nat → Nat → Int) → (Nat → Nat → Int) → (Nat → Nat → Nat) → ρ → Prop} {F : ρ → Prop} (h : Imp (calTX P V C k) F) (hc : C (U, J, R)) (hb : FB P V U) : Imp (k U J R) F := fun r hk => h r ⟨U, J, R, hc, hb, hk⟩
def calVM {α ρ : Type} (P : Nat) (V : Nat → Nat → Int) (C : α × (Nat → Nat → Int) → Prop) (k : α → (Nat → Nat → Int) → ρ → Prop) : ρ → Prop := fun r => ∃ (z : α) (U : Nat → Nat → Int), C (z, U) ∧ FBm P V U ∧ k z U r
theorem calVM_i {α ρ : Type} {P : Nat} {V U : Nat → Nat → Int} {C : α × (Nat → Nat → Int) → Prop} {k : α → (Nat → Nat → Int) → ρ → Prop} {F : ρ → Prop} {z : α} (h : Imp (calVM P V C k) F) (hc : C (z, U)) (hb : FBm P V U) : Imp (k z U) F := fun r hk => h r ⟨z, U, hc, hb, hk⟩
def calUM {ρ : Type} (P : Nat) (V : Nat → Nat → Int) (C : (Nat → Nat → Int) → Prop) (k : (Nat → Nat → Int) → ρ → Prop) : ρ → Prop := fun r => ∃ U : Nat → Nat → Int, C U ∧ FBm P V U ∧ k U r
theorem calUM_i {ρ : Type} {P : Nat} {V U : Nat → Nat → Int} {C : (Nat → Nat → Int) → Prop} {k : (Nat → Nat → Int) → ρ → Prop} {F : ρ → Prop} (h : Imp (calUM P V C k) F) (hc : C U) (hb : FBm P V U) : Imp (k U) F := fun r hk => h r ⟨U, hc, hb, hk⟩
def calSM {α ρ : Type} (P : Nat) (V : Nat → Nat → Int) (C : α × xS → Prop) (k : α → (Nat → Nat → Int) → (Nat → Nat → Int) → (Nat → Nat → Nat) → ρ → Prop) : ρ → Prop := fun r => ∃ (z : α) (U J : Nat → Nat → Int) (R : Nat → Nat → Nat), C (z, (U, J, R)) ∧ FBm P V U ∧ k z U J R r
theorem calSM_i {α ρ : Type} {P : Nat} {V U J : Nat → Nat → Int} {R : Nat → Nat → Nat} {C : α × xS → Prop} {k : α → (Nat → Nat → Int) → (Nat → Nat → Int) → (Nat → Nat → Nat) → ρ → Prop} {F : ρ → Prop} {z : α} (h : Imp (calSM P V C k) F) (hc : C (z, (U, J, R))) (hb : FBm P V U) : Imp (k z U J R) F := fun r hk => h r ⟨z, U, J, R, hc, hb, hk⟩
def calTM {ρ : Type} (P : Nat) (V : Nat → Nat → Int) (C : xS → Prop) (k : (Nat → Nat → Int) → (Nat → Nat → Int) → (Nat → Nat → Nat) → ρ → Prop) : ρ → Prop := fun r => ∃ (U J : Nat → Nat → Int) (R : Nat → Nat → Nat), C (U, J, R) ∧ FBm P V U ∧ k U J R r
theorem calTM_i {ρ : Type} {P : Nat} {V U J : Nat → Nat → Int} {R : Nat → Nat → Nat} {C : xS → Prop} {k : (Nat → Nat → Int) → (Nat → Nat → Int) → (Nat → Nat → Nat) → ρ → Prop} {F : ρ → Prop} (h : Imp (calTM P V C k) F) (hc : C (U, J, R)) (hb : FBm P V U) : Imp (k U J R) F := fun r hk => h r ⟨U, J, R, hc, hb, hk⟩
theorem jn_s1 {α ρ : Type} {j k : α → ρ} (h : j = k) {x0 : α} : j x0 = k x0 := congrFun h x0
def lop1 {α ρ : Type} : Nat → ((α → ρ → Prop) → α → ρ → Prop) → α → ρ → Prop
  | 0, _, _ => fun _ => False
  | n + 1, b, x0 => b (lop1 n b) x0
theorem lop1_ex {α ρ : Type} {F : ρ → Prop} {n : Nat} {b : (α → ρ → Prop) → α → ρ → Prop} {x0 : α} (h : Imp (lop1 n b x0) F) : ∃ b2, b2 = b ∧ Imp (lop1 n b2 x0) F := ⟨b, rfl, h⟩
theorem lop1_s {α ρ : Type} {n : Nat} {b b2 : (α → ρ → Prop) → α → ρ → Prop} (h : b2 = b) {x0 : α} : lop1 (n + 1) b2 x0 = b (lop1 n b2) x0 := congrFun (congrFun h (lop1 n b2)) x0
theorem jn_s2 {α β ρ : Type} {j k : α → β → ρ} (h : j = k) {x0 : α} {x1 : β} : j x0 x1 = k x0 x1 := congrFun (congrFun h x0) x1
def lop2 {α β ρ : Type} : Nat → ((α → β → ρ → Prop) → α → β → ρ → Prop) → α → β → ρ → Prop
  | 0, _, _, _ => fun _ => False
  | n + 1, b, x0, x1 => b (lop2 n b) x0 x1
theorem lop2_ex {α β ρ : Type} {F : ρ → Prop} {n : Nat} {b : (α → β → ρ → Prop) → α → β → ρ → Prop} {x0 : α} {x1 : β} (h : Imp (lop2 n b x0 x1) F) : ∃ b2, b2 = b ∧ Imp (lop2 n b2 x0 x1) F := ⟨b, rfl, h⟩
theorem lop2_s {α β ρ : Type} {n : Nat} {b b2 : (α → β → ρ → Prop) → α → β → ρ → Prop} (h : b2 = b) {x0 : α} {x1 : β} : lop2 (n + 1) b2 x0 x1 = b (lop2 n b2) x0 x1 := congrFun (congrFun (congrFun h (lop2 n b2)) x0) x1
theorem jn_s3 {α β γ ρ : Type} {j k : α → β → γ → ρ} (h : j = k) {x0 : α} {x1 : β} {x2 : γ} : j x0 x1 x2 = k x0 x1 x2 := congrFun (congrFun (congrFun h x0) x1) x2
def lop3 {α β γ ρ : Type} : Nat → ((α → β → γ → ρ → Prop) → α → β → γ → ρ → Prop) → α → β → γ → ρ → Prop
  | 0, _, _, _, _ => fun _ => False
  | n + 1, b, x0, x1, x2 => b (lop3 n b) x0 x1 x2
theorem lop3_ex {α β γ ρ : Type} {F : ρ → Prop} {n : Nat} {b : (α → β → γ → ρ → Prop) → α → β → γ → ρ → Prop} {x0 : α} {x1 : β} {x2 : γ} (h : Imp (lop3 n b x0 x1 x2) F) : ∃ b2, b2 = b ∧ Imp (lop3 n b2 x0 x1 x2) F := ⟨b, rfl, h⟩
theorem lop3_s {α β γ ρ : Type} {n : Nat} {b b2 : (α → β → γ → ρ → Prop) → α → β → γ → ρ → Prop} (h : b2 = b) {x0 : α} {x1 : β} {x2 : γ} : lop3 (n + 1) b2 x0 x1 x2 = b (lop3 n b2) x0 x1 x2 := congrFun (congrFun (congrFun (congrFun h (lop3 n b2)) x0) x1) x2
theorem jn_s4 {α β γ δ ρ : Type} {j k : α → β → γ → δ → ρ} (h : j = k) {x0 : α} {x1 : β} {x2 : γ} {x3 : δ} : j x0 x1 x2 x3 = k x0 x1 x2 x3 := congrFun (congrFun (congrFun (congrFun h x0) x1) x2) x3
def lop4 {α β γ δ ρ : Type} : Nat → ((α → β → γ → δ → ρ → Prop) → α → β → γ → δ → ρ → Prop) → α → β → γ → δ → ρ → Prop
  | 0, _, _, _, _, _ => fun _ => False
  | n + 1, b, x0, x1, x2, x3 => b (lop4 n b) x0 x1 x2 x3
theorem lop4_ex {α β γ δ ρ : Type} {F : ρ → Prop} {n : Nat} {b : (α → β → γ → δ → ρ → Prop) → α → β → γ → δ → ρ → Prop} {x0 : α} {x1 : β} {x2 : γ} {x3 : δ} (h : Imp (lop4 n b x0 x1 x2 x3) F) : ∃ b2, b2 = b ∧ Imp (lop4 n b2 x0 x1 x2 x3) F := ⟨b, rfl, h⟩
theorem lop4_s {α β γ δ ρ : Type} {n : Nat} {b b2 : (α → β → γ → δ → ρ → Prop) → α → β → γ → δ → ρ → Prop} (h : b2 = b) {x0 : α} {x1 : β} {x2 : γ} {x3 : δ} : lop4 (n + 1) b2 x0 x1 x2 x3 = b (lop4 n b2) x0 x1 x2 x3 := congrFun (congrFun (congrFun (congrFun (congrFun h (lop4 n b2)) x0) x1) x2) x3
theorem jn_s5 {α β γ δ ε ρ : Type} {j k : α → β → γ → δ → ε → ρ} (h : j = k) {x0 : α} {x1 : β} {x2 : γ} {x3 : δ} {x4 : ε} : j x0 x1 x2 x3 x4 = k x0 x1 x2 x3 x4 := congrFun (congrFun (congrFun (congrFun (congrFun h x0) x1) x2) x3) x4
def lop5 {α β γ δ ε ρ : Type} : Nat → ((α → β → γ → δ → ε → ρ → Prop) → α → β → γ → δ → ε → ρ → Prop) → α → β → γ → δ → ε → ρ → Prop
  | 0, _, _, _, _, _, _ => fun _ => False
  | n + 1, b, x0, x1, x2, x3, x4 => b (lop5 n b) x0 x1 x2 x3 x4
theorem lop5_ex {α β γ δ ε ρ : Type} {F : ρ → Prop} {n : Nat} {b : (α → β → γ → δ → ε → ρ → Prop) → α → β → γ → δ → ε → ρ → Prop} {x0 : α} {x1 : β} {x2 : γ} {x3 : δ} {x4 : ε} (h : Imp (lop5 n b x0 x1 x2 x3 x4) F) : ∃ b2, b2 = b ∧ Imp (lop5 n b2 x0 x1 x2 x3 x4) F := ⟨b, rfl, h⟩
theorem lop5_s {α β γ δ ε ρ : Type} {n : Nat} {b b2 : (α → β → γ → δ → ε → ρ → Prop) → α → β → γ → δ → ε → ρ → Prop} (h : b2 = b) {x0 : α} {x1 : β} {x2 : γ} {x3 : δ} {x4 : ε} : lop5 (n + 1) b2 x0 x1 x2 x3 x4 = b (lop5 n b2) x0 x1 x2 x3 x4 := congrFun (congrFun (congrFun (congrFun (congrFun (congrFun h (lop5 n b2)) x0) x1) x2) x3) x4
theorem jn_s6 {α β γ δ ε ζ ρ : Type} {j k : α → β → γ → δ → ε → ζ → ρ} (h : j = k) {x0 : α} {x1 : β} {x2 : γ} {x3 : δ} {x4 : ε} {x5 : ζ} : j x0 x1 x2 x3 x4 x5 = k x0 x1 x2 x3 x4 x5 := congrFun (congrFun (congrFun (congrFun (congrFun (congrFun h x0) x1) x2) x3) x4) x5
def lop6 {α β γ δ ε ζ ρ : Type} : Nat → ((α → β → γ → δ → ε → ζ → ρ → Prop) → α → β → γ → δ → ε → ζ → ρ → Prop) → α → β → γ → δ → ε → ζ → ρ → Prop
  | 0, _, _, _, _, _, _, _ => fun _ => False
  | n + 1, b, x0, x1, x2, x3, x4, x5 => b (lop6 n b) x0 x1 x2 x3 x4 x5
theorem lop6_ex {α β γ δ ε ζ ρ : Type} {F : ρ → Prop} {n : Nat} {b : (α → β → γ → δ → ε → ζ → ρ → Prop) → α → β → γ → δ → ε → ζ → ρ → Prop} {x0 : α} {x1 : β} {x2 : γ} {x3 : δ} {x4 : ε} {x5 : ζ} (h : Imp (lop6 n b x0 x1 x2 x3 x4 x5) F) : ∃ b2, b2 = b ∧ Imp (lop6 n b2 x0 x1 x2 x3 x4 x5) F := ⟨b, rfl, h⟩
theorem lop6_s {α β γ δ ε ζ ρ : Type} {n : Nat} {b b2 : (α → β → γ → δ → ε → ζ → ρ → Prop) → α → β → γ → δ → ε → ζ → ρ → Prop} (h : b2 = b) {x0 : α} {x1 : β} {x2 : γ} {x3 : δ} {x4 : ε} {x5 : ζ} : lop6 (n + 1) b2 x0 x1 x2 x3 x4 x5 = b (lop6 n b2) x0 x1 x2 x3 x4 x5 := congrFun (congrFun (congrFun (congrFun (congrFun (congrFun (congrFun h (lop6 n b2)) x0) x1) x2) x3) x4) x5
def wrJ (z : Int) : Int := (Int64.ofInt z).toInt
section XEX
variable {p : Program} {l : Launch} {e : Env} {R : Room} {s : State} {m : MethodId} {args : Array Value} {below : List Frame} {meth : Method} {c : Code} {cells slots : Nat} {Q : State → Prop}
variable {D : va_G} {A : Nat → Prop} {H0 : Heap} {nL : Nat} {ws : va_W} {pc : Nat} {lv : List (Nat × Value)} {st : List Value} {cc : ByteArray} {Ts : List Cond} {own : String} {TY : List (ClassId × FieldType)}
theorem x_wrapJg {z : Int} (k : ∀ y : Int, R64 y → y = wrJ z → xW p l e R s m args below meth c D A H0 nL cells slots Q ws pc lv (vJ y :: st)) : xW p l e R s m args below meth c D A H0 nL cells slots Q ws pc lv (vJ z :: st) := by
  have k := k (Int64.ofInt z).toInt (xj_r _) rfl
  rw [vJ, xj_of] at k
  exact k
end XEX
end
section
-- the references that stay
def RK (R2 R : Nat → Nat → Nat) : Prop := ∀ i : Nat, i ≤ 72 → R2 i = R i
theorem RK.rf (R : Nat → Nat → Nat) : RK R R := fun _ _ => rfl
theorem RK.up {R1 R R2 : Nat → Nat → Nat} (h : RK R1 R) {i k a : Nat} (hX : R2 = up2 R1 i k a) (hi : 73 ≤ i) : RK R2 R := by
  subst hX
  intro j hj
  rw [up2_c _ _ (by omega)]
  exact h j hj
theorem RK.tr {R3 R2 R1 : Nat → Nat → Nat} (h : RK R2 R1) (h2 : RK R3 R2) : RK R3 R1 := fun i hi => (h2 i hi).trans (h i hi)
end
