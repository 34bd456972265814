def iUshr (a b : Int) : Int := ((Int32.ofInt a).toUInt32 >>> ((Int32.ofInt b).toUInt32 &&& Int32.toUInt32 31)).toInt32.toInt
section XM
variable {p : Program} {l : Launch} {e : Env} {R : Room} {s : State} {m : MethodId} {args : Array Value} {below : List Frame} {meth : Method} {c : Code} {cells slots : Nat} {Q : State → Prop}
variable {D : va_G} {A : Nat → Prop} {H0 : Heap} {nL : Nat} {ws : va_W} {pc : Nat} {lv : List (Nat × Value)} {st : List Value} {cc : ByteArray} {Ts : List Cond} {own : String} {TY : List (ClassId × FieldType)}
theorem x_iushr (C : xC p s m args meth c D A H0 nL cc Ts own TY) {a b v : Int} (hv : iUshr a b = v) (hd : decode cc pc = .ok (.iushr, 1)) (k : xW p l e R s m args below meth c D A H0 nL cells slots Q ws (pc + 1) lv (vI v :: st)) : xW p l e R s m args below meth c D A H0 nL cells slots Q ws pc lv (vI b :: vI a :: st) :=
  fun H locs la hP hD hS hl => lv_iushr C.1 C.2.1 hd (v := Int32.ofInt v) (by rw [← hv, iUshr, xi_of]) (k H locs la hP hD hS hl)
theorem x_ldcw (C : xC p s m args meth c D A H0 nL cc Ts own TY) {index : Nat} {n : Int} (hw : (Jvm.Cond.constant own index (Int32.ofInt n)) ∈ Ts) (hd : decode cc pc = .ok (.ldc_w index, 3)) (k : xW p l e R s m args below meth c D A H0 nL cells slots Q ws (pc + 3) lv (vI n :: st)) : xW p l e R s m args below meth c D A H0 nL cells slots Q ws pc lv st :=
  fun H locs la hP hD hS hl => lv_ldcw C.1 C.2.1 C.2.2.2.1 (C.2.2.2.2.1 _ hw) hd (k H locs la hP hD hS hl)
theorem x_lv (lv' : List (Nat × Value)) (ks : List Nat) (h : lv_pick lv ks = lv') (k : xW p l e R s m args below meth c D A H0 nL cells slots Q ws pc lv' st) : xW p l e R s m args below meth c D A H0 nL cells slots Q ws pc lv st :=
  fun H locs la hP hD hS hl => k H locs la hP hD hS (lv_sub hl ks h)
theorem x_loop {σ : Type} (I : σ → Prop) (μ : σ → Nat) (wsf : σ → va_W) (lvf : σ → List (Nat × Value)) (body : ∀ x : σ, I x → (∀ y : σ, I y → μ y < μ x → xW p l e R s m args below meth c D A H0 nL cells slots Q (wsf y) pc (lvf y) st) → xW p l e R s m args below meth c D A H0 nL cells slots Q (wsf x) pc (lvf x) st) (x0 : σ) (h0 : I x0) {ws0 : va_W} {lv0 : List (Nat × Value)} (hw : ws0 = wsf x0) (hl : lv0 = lvf x0) : xW p l e R s m args below meth c D A H0 nL cells slots Q ws0 pc lv0 st := by
  subst hw; subst hl
  have key : ∀ n, ∀ x : σ, μ x < n → I x → xW p l e R s m args below meth c D A H0 nL cells slots Q (wsf x) pc (lvf x) st := by
    intro n
    induction n with
    | zero => exact fun x h => absurd h (Nat.not_lt_zero _)
    | succ n ih => exact fun x h hI => body x hI (fun y hy hlt => ih y (by omega) hy)
  exact key _ x0 (Nat.lt_succ_self _) h0
end XM
section XA
variable {p : Program} {l : Launch} {e : Env} {R : Room} {s : State} {m : MethodId} {args : Array Value} {below : List Frame} {meth : Method} {c : Code} {cells slots : Nat} {Q : State → Prop}
variable {D : va_G} {A : Nat → Prop} {H0 : Heap} {nL : Nat} {pc : Nat} {lv : List (Nat × Value)} {st : List Value} {cc : ByteArray} {own : String} {cy : Nat → ClassId}
variable {N : Nat} {dsc : Nat → xD} {ad : Nat → Nat} {V J : Nat → Nat → Int} {Rr : Nat → Nat → Nat}
/-- copies of n places of the array i from sp on into the array j from dp on -/
def cpV (V : Nat → Nat → Int) (i sp j dp n : Nat) : Nat → Nat → Int := fun q k => if q = j ∧ dp ≤ k ∧ k < dp + n then V i (sp + (k - dp)) else V q k
theorem x_copyi (C : xC2 p s m args meth c D A H0 nL cc own (xTY cy)) {index : Nat} (hlink : Cond.methodLink own index arraycopyName ∈ WG) {i j n0 n1 b0 d0 b1 d1 : Nat} (hi : i < N) (hj : j < N) (hdi : dsc i = .inr (0, n0, 0, b0, d0)) (hdj : dsc j = .inr (0, n1, 0, b1, d1)) (sp dp n : Nat) (h4 : sp + n ≤ n0) (h5 : dp + n ≤ n1) (hn0 : n0 < 2147483648) (hn1 : n1 < 2147483648) (hframes : 1 ≤ R.frames) (hlocals : (st.map fun v => v.category).sum + 40 ≤ R.locals) (hdg : decode cc pc = .ok (.invokestatic index, 3))
    (kk : xW p l e R s m args below meth c D A H0 nL cells slots Q (xw N dsc cy ad (cpV V i sp j dp n) J Rr) (pc + 3) lv st) : xW p l e R s m args below meth c D A H0 nL cells slots Q (xw N dsc cy ad V J Rr) pc lv (vI (n : Int) :: vI (dp : Int) :: .ref (ad j) :: vI (sp : Int) :: .ref (ad i) :: st) := by
  intro H locs la hP hD hS hl
  have rr : ∀ k : Nat, k < 2147483648 → (Int32.ofInt (k : Int)).toNatClampNeg = k := fun k hk => by rw [xi_nat ⟨by omega, by omega⟩]; omega
  have nn : ∀ k : Nat, k < 2147483648 → ¬ Int32.ofInt (k : Int) < 0 := fun k hk h => by
    have := (xi_lt (a := (k : Int)) (b := 0) ⟨by omega, by omega⟩ (by decide)).mp h
    omega
  refine va_copyi C.1.1 C.1.2.1 (C.1.2.2.1.trans hl.1.symm) C.1.2.2.2.1 (C.1.2.2.2.2.1 _ hlink) (C.1.2.2.2.2.1 _ wnat_arraycopy) (C.1.2.2.2.2.1 _ wi_arraycopyName) (C.1.2.2.2.2.1 _ wn_J10) C.1.2.2.2.2.2.1 hP hD hS i j 0 0 (xw_at hi hdi) (xw_at hj hdj) rfl rfl rfl (nn sp (by omega)) (nn dp (by omega)) (nn n (by omega)) (by rw [rr sp (by omega), rr n (by omega)]; exact h4) (by rw [rr dp (by omega), rr n (by omega)]; exact h5) (fun k _ => rfl) hframes (Nat.le_trans (Nat.add_le_add_left (show nativeFrameWords "java/lang/System" "arraycopy" 5 + 11 ≤ 40 by decide +kernel) _) hlocals) hdg (fun H1 locs1 hP1 hD1 hS1 => ?_)
  rw [rr sp (by omega), rr dp (by omega), rr n (by omega)] at hP1 hD1
  have e1 : (xw N dsc cy ad V J Rr).set j (ad j, .inl (cy 0, n1, .inl (va_cpy (fun k => Int32.ofInt (V i k)) (fun k => Int32.ofInt (V j k)) sp dp n))) = xw N dsc cy ad (cpV V i sp j dp n) J Rr := by
    refine xw_set hj ?_ (fun q hq => ?_) (fun q hq => rfl) (fun q hq => rfl)
    · rw [hdj]
      have e : va_cpy (fun k => Int32.ofInt (V i k)) (fun k => Int32.ofInt (V j k)) sp dp n = fun k => Int32.ofInt (cpV V i sp j dp n j k) := by
        funext k
        simp only [va_cpy, cpV, true_and]
        split <;> rfl
      rw [e]
      rfl
    · funext k
      simp [cpV, hq]
  rw [e1] at hP1 hD1
  exact kk H1 locs1 la hP1 hD1 hS1 hl
end XA
theorem cpV_VR {V : Nat → Nat → Int} {i sp j dp n : Nat} (h : VR V) : VR (cpV V i sp j dp n) := by
  intro q k
  unfold cpV
  split
  · exact h _ _
  · exact h _ _
def flV (V : Nat → Nat → Int) (c n : Nat) (v : Int) : Nat → Nat → Int := fun j k => if j = c ∧ k < n then v else V j k
theorem flV_0 (V : Nat → Nat → Int) (c : Nat) (v : Int) : flV V c 0 v = V := by funext j k; simp [flV]
theorem flV_s (V : Nat → Nat → Int) (c n : Nat) (v : Int) : up2 (flV V c n v) c n v = flV V c (n + 1) v := by
  funext j k
  by_cases hj : j = c
  · subst hj
    by_cases hk : k = n
    · subst hk
      rw [up2_s]
      simp [flV]
    · rw [up2_n _ _ (Or.inr hk)]
      have : k < n + 1 ↔ k < n := by omega
      simp [flV, this]
  · rw [up2_n _ _ (Or.inl hj)]
    simp [flV, hj]
theorem flV_VR {V : Nat → Nat → Int} {c n : Nat} {v : Int} (h : VR V) (hv : R32 v) : VR (flV V c n v) := by
  intro j k
  unfold flV
  split
  · exact hv
  · exact h _ _
def wr (z : Int) : Int := (Int32.ofInt z).toInt
theorem wr_r (z : Int) : R32 (wr z) := xi_r _
theorem wr_cases {z : Int} (h : -6442450944 ≤ z ∧ z ≤ 6442450943) : (-2147483648 ≤ z ∧ z ≤ 2147483647 ∧ wr z = z) ∨ (z < -2147483648 ∧ wr z = z + 4294967296) ∨ (2147483647 < z ∧ wr z = z - 4294967296) := by
  have e : ∀ y : Int, Int32.ofInt (y + 4294967296) = Int32.ofInt y := fun y => by
    rw [Int32.ofInt_add, show Int32.ofInt 4294967296 = 0 by decide]
    exact Int32.add_zero _
  rcases Int.lt_or_le z (-2147483648) with h1 | h1
  · refine Or.inr (Or.inl ⟨h1, ?_⟩)
    rw [wr, ← e z, xi_toInt ⟨by omega, by omega⟩]
  · rcases Int.lt_or_le 2147483647 z with h2 | h2
    · refine Or.inr (Or.inr ⟨h2, ?_⟩)
      rw [wr, show z = (z - 4294967296) + 4294967296 by omega, e, xi_toInt ⟨by omega, by omega⟩]
      omega
    · exact Or.inl ⟨h1, h2, xi_toInt ⟨h1, h2⟩⟩
section XT
variable {p : Program} {l : Launch} {e : Env} {R : Room} {s : State} {m : MethodId} {args : Array Value} {below : List Frame} {meth : Method} {c : Code} {cells slots : Nat} {Q : State → Prop}
variable {D : va_G} {A : Nat → Prop} {H0 : Heap} {nL : Nat} {ws : va_W} {pc : Nat} {lv : List (Nat × Value)} {st : List Value} {cc : ByteArray} {Ts : List Cond} {own : String} {TY : List (ClassId × FieldType)}
theorem x_wrap {z : Int} (k : xW p l e R s m args below meth c D A H0 nL cells slots Q ws pc lv (vI (wr z) :: st)) : xW p l e R s m args below meth c D A H0 nL cells slots Q ws pc lv (vI z :: st) := by
  rw [vI, wr, xi_of] at k
  exact k
theorem x_tabIn (C : xC p s m args meth c D A H0 nL cc Ts own TY) {dflt lo hi : Int} {offs : Array Int} {len : Nat} {x : Int} (v : Int) (hx : x = v) (hr : R32 v) {off : Int} {tgt : Nat} (hd : decode cc pc = .ok (.tableswitch dflt lo hi offs, len)) (h1 : ¬ v < lo) (h2 : ¬ hi < v) (ho : offs[(v - lo).toNat]? = some off) (ht : (pc : Int) + off = (tgt : Int)) (k : xW p l e R s m args below meth c D A H0 nL cells slots Q ws tgt lv st) : xW p l e R s m args below meth c D A H0 nL cells slots Q ws pc lv (vI x :: st) := by
  subst hx
  exact fun H locs la hP hD hS hl => lv_tableIn C.1 C.2.1 hd (by rw [xi_toInt hr]; exact h1) (by rw [xi_toInt hr]; exact h2) (by rw [xi_toInt hr]; exact ho) ht (k H locs la hP hD hS hl)
theorem x_tabOut (C : xC p s m args meth c D A H0 nL cc Ts own TY) {dflt lo hi : Int} {offs : Array Int} {len : Nat} {x : Int} (hr : R32 x) {tgt : Nat} (hd : decode cc pc = .ok (.tableswitch dflt lo hi offs, len)) (h : x < lo ∨ hi < x) (ht : (pc : Int) + dflt = (tgt : Int)) (k : xW p l e R s m args below meth c D A H0 nL cells slots Q ws tgt lv st) : xW p l e R s m args below meth c D A H0 nL cells slots Q ws pc lv (vI x :: st) :=
  fun H locs la hP hD hS hl => lv_tableOut C.1 C.2.1 hd (by rw [xi_toInt hr]; exact h) ht (k H locs la hP hD hS hl)
end XT
theorem z_fit {a : Int} (h : a = 0 ∨ a = 1) : fits .boolean (vI a) = true := by rcases h with rfl | rfl <;> decide
theorem isTx_r {q : Nat} (hq : q < 4) : isTx (78 + 5 * q) := by
  have : q = 0 ∨ q = 1 ∨ q = 2 ∨ q = 3 := by omega
  rcases this with rfl | rfl | rfl | rfl <;> simp [isTx]
def iB (a : Int) : Int := (Int32.ofInt a).toInt8.toInt32.toInt
section XI
variable {p : Program} {l : Launch} {e : Env} {R : Room} {s : State} {m : MethodId} {args : Array Value} {below : List Frame} {meth : Method} {c : Code} {cells slots : Nat} {Q : State → Prop}
variable {D : va_G} {A : Nat → Prop} {H0 : Heap} {nL : Nat} {ws : va_W} {pc : Nat} {lv : List (Nat × Value)} {st : List Value} {cc : ByteArray} {Ts : List Cond} {own : String} {TY : List (ClassId × FieldType)}
theorem x_i2b (C : xC p s m args meth c D A H0 nL cc Ts own TY) {a : Int} (hd : decode cc pc = .ok (.i2b, 1)) (k : xW p l e R s m args below meth c D A H0 nL cells slots Q ws (pc + 1) lv (vI (iB a) :: st)) : xW p l e R s m args below meth c D A H0 nL cells slots Q ws pc lv (vI a :: st) :=
  fun H locs la hP hD hS hl => lv_i2b C.1 C.2.1 hd (v := Int32.ofInt (iB a)) (by rw [iB, xi_of]) (k H locs la hP hD hS hl)
end XI
theorem iB_nar (a : Int) : vp_nar .byte (Int32.ofInt (iB a)) = Int32.ofInt (iB a) := by
  rw [iB, xi_of, vp_nar_byte, Int8.toInt8_toInt32]
theorem iAnd_le (y : Int) {q : Int} (h : 0 ≤ q ∧ q ≤ 2147483647) : 0 ≤ iAnd y q ∧ iAnd y q ≤ q := by
  have e1 : (Int32.ofInt q).toBitVec.toNat = q.toNat := by
    have h2 := xi_toInt (a := q) ⟨by omega, by omega⟩
    have h3 : (Int32.ofInt q).toBitVec.toInt = q := h2
    rw [BitVec.toInt_eq_toNat_cond] at h3
    have h4 := (Int32.ofInt q).toBitVec.isLt
    split at h3 <;> omega
  have e2 : (Int32.ofInt y &&& Int32.ofInt q).toBitVec.toNat ≤ q.toNat := by
    rw [← e1, Int32.toBitVec_and, BitVec.toNat_and]
    exact Nat.and_le_right
  have e3 : iAnd y q = ((Int32.ofInt y &&& Int32.ofInt q).toBitVec.toNat : Int) := by
    show (Int32.ofInt y &&& Int32.ofInt q).toBitVec.toInt = _
    rw [BitVec.toInt_eq_toNat_cond, if_pos (by omega)]
  omega
theorem iShr_0 (k : Int) : iShr 0 k = 0 := by
  unfold iShr
  rw [show Int32.ofInt 0 = 0 by decide, Int32.zero_shiftRight]
  decide
theorem iAnd_0 (k : Int) : iAnd 0 k = 0 := by
  unfold iAnd
  rw [show Int32.ofInt 0 = 0 by decide, Int32.zero_and]
  decide
