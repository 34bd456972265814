-- texts on both sides; what they come to (own work)
/-- the reference's fact i is the first side's letter fc i -/
def fc : Nat → Nat
  | 0 => 3
  | 1 => 22
  | 2 => 11
  | 3 => 14
  | 4 => 5
  | 5 => 18
  | 6 => 24
  | 7 => 25
  | 8 => 15
  | 9 => 19
  | 10 => 13
  | 11 => 0
  | _ => 16
theorem fc_b (i : Nat) : fc i < 26 := by unfold fc; split <;> decide
/-- one step of a program: the first side's word, the reference's -/
def stp (s op v : Int) : Prop := 0 ≤ op ∧ op ≤ 12 ∧ 0 ≤ v ∧ v < 1048576 ∧ ((¬ op = 1 ∧ s = op + 16 * v) ∨ (op = 1 ∧ v ≤ 12 ∧ s = 1 + 16 * ((fc v.toNat : Nat) : Int)))
/-- the stack's height ahead of each step; -1: one truth alone -/
def sTy (t : Int) (τ : Int → Int) (z op v : Int) : Prop :=
  (op = 0 ∧ 0 ≤ τ z ∧ τ z ≤ 38 ∧ τ (z + 1) = τ z + 1) ∨ (op = 1 ∧ v ≤ 12 ∧ 0 ≤ τ z ∧ τ z ≤ 38 ∧ τ (z + 1) = τ z + 1) ∨
  (2 ≤ op ∧ op ≤ 6 ∧ 2 ≤ τ z ∧ τ z ≤ 39 ∧ τ (z + 1) = τ z - 1) ∨ (7 ≤ op ∧ op ≤ 9 ∧ τ z = 2 ∧ τ (z + 1) = -1) ∨
  (op = 10 ∧ τ z = -1 ∧ τ (z + 1) = -1) ∨ ((op = 11 ∨ op = 12) ∧ τ z = -1 ∧ τ (z + 1) = 0 ∧ z < v ∧ v ≤ t ∧ τ v = -1)
/-- the steps from f to t, of the first side's text t0 and the reference's text tx -/
def RS (s w : Nat → Int) (tx : Nat) (f t e : Int) : Prop := ∃ τ : Int → Int, τ f = 0 ∧ τ t = e ∧ ∀ z : Int, f ≤ z → z < t → ∃ op v : Int, w (220 * tx + z.toNat) = 1048576 * op + v ∧ stp (s z.toNat) op v ∧ sTy t τ z op v
def RC1 (t tx : Nat) (Vx Vm : Nat → Nat → Int) (j : Nat) : Prop :=
  Vx (t + 2) j = Vm 13 (14 * tx + j) ∧ Vm 14 (14 * tx + j) = 220 * tx + Vx (t + 3) j ∧ Vm 15 (14 * tx + j) = 220 * tx + Vx (t + 4) j ∧ Vm 16 (14 * tx + j) = 220 * tx + Vx (t + 3) (j + 1) ∧
  0 ≤ Vx (t + 3) j ∧ Vx (t + 3) j ≤ Vx (t + 4) j ∧ Vx (t + 4) j ≤ Vx (t + 3) (j + 1) ∧ Vx (t + 3) (j + 1) ≤ Vx t 1 ∧
  RS (Vx (t + 1)) (Vm 11) tx (Vx (t + 3) j) (Vx (t + 4) j) 1 ∧ RS (Vx (t + 1)) (Vm 11) tx (Vx (t + 4) j) (Vx (t + 3) (j + 1)) (-1)
/-- the first side's text t is the reference's text tx -/
def RTz (t tx : Nat) (Vx Vm : Nat → Nat → Int) : Prop :=
  Vx t 5 = Vm 12 tx ∧ (0 ≤ Vx t 5 ∧ Vx t 5 ≤ 14) ∧ (0 ≤ Vx t 1 ∧ Vx t 1 ≤ 200) ∧ ∀ j : Nat, (j : Int) < Vx t 5 → RC1 t tx Vx Vm j
/-- facts -/
def RF (Vx Vm : Nat → Nat → Int) : Prop := ∀ i : Nat, i < 13 → Vx 70 (fc i) = Vm 18 i
theorem RTz.cg {t tx : Nat} {Vx Vm Ux Um : Nat → Nat → Int} (h : RTz t tx Vx Vm) (hx : ∀ i k : Nat, t ≤ i → i ≤ t + 4 → Ux i k = Vx i k) (hm : ∀ i k : Nat, 11 ≤ i → i ≤ 16 → Um i k = Vm i k) : RTz t tx Ux Um := by
  have e1 : Ux (t + 1) = Vx (t + 1) := funext fun k => hx _ _ (by omega) (by omega)
  have e2 : Um 11 = Vm 11 := funext fun k => hm _ _ (by omega) (by omega)
  obtain ⟨h1, h2, h3, h4⟩ := h
  refine ⟨?_, ?_, ?_, fun j hj => ?_⟩
  · rw [hx t 5 (by omega) (by omega), hm 12 tx (by omega) (by omega)]; exact h1
  · rw [hx t 5 (by omega) (by omega)]; exact h2
  · rw [hx t 1 (by omega) (by omega)]; exact h3
  · rw [hx t 5 (by omega) (by omega)] at hj
    have h := h4 j hj
    unfold RC1 at h ⊢
    rw [e1, e2, hx (t + 2) j (by omega) (by omega), hx (t + 3) j (by omega) (by omega), hx (t + 4) j (by omega) (by omega), hx (t + 3) (j + 1) (by omega) (by omega), hx t 1 (by omega) (by omega), hm 13 _ (by omega) (by omega), hm 14 _ (by omega) (by omega), hm 15 _ (by omega) (by omega), hm 16 _ (by omega) (by omega)]
    exact h
theorem iShr_4 {a : Int} (h : R32 a) : iShr a 4 = a / 16 := by
  have e : iShr a 4 = ((Int32.ofInt a).toBitVec.sshiftRight' ((Int32.ofInt 4 &&& 31).toBitVec.smod 32)).toInt := rfl
  have e2 : (Int32.ofInt a).toBitVec.toInt = a := xi_toInt h
  rw [e, BitVec.toInt_sshiftRight', show ((Int32.ofInt 4 &&& 31).toBitVec.smod 32).toNat = 4 by decide, Int.shiftRight_eq_div_pow, e2]
  rfl
theorem iAnd_15 {z : Int} (h : 0 ≤ z ∧ z ≤ 2147483647) : iAnd z 15 = z % 16 := by
  obtain ⟨n, rfl⟩ : ∃ n : Nat, z = n := ⟨z.toNat, by omega⟩
  have := iAnd_n (a := n) (b := 15) (by omega) (by decide)
  rw [show ((15 : Nat) : Int) = 15 from rfl] at this
  rw [this, show (15 : Nat) = 2 ^ 4 - 1 from rfl, Nat.and_two_pow_sub_one_eq_mod]
  omega
/-- the first side's word, taken apart -/
theorem stp.cut {s op v : Int} (h : stp s op v) : iAnd s 15 = op ∧ (¬ op = 1 → iShr s 4 = v) ∧ (op = 1 → v ≤ 12 ∧ iShr s 4 = ((fc v.toNat : Nat) : Int)) := by
  obtain ⟨h1, h2, h3, h4, h5⟩ := h
  have hf := fc_b v.toNat
  rw [iAnd_15 (by omega), iShr_4 ⟨by omega, by omega⟩]
  refine ⟨by omega, fun h => by omega, fun h => ⟨by omega, by omega⟩⟩
/-- the reference's word, taken apart -/
theorem mwd {op v : Int} (h : 0 ≤ op ∧ op ≤ 12) (hv : 0 ≤ v ∧ v < 1048576) : iDiv (1048576 * op + v) 1048576 = op ∧ iRem (1048576 * op + v) 1048576 = v := by
  rw [iDiv_p (by omega) (by omega), iRem_p (by omega) (by omega)]
  omega
theorem q_push {v : Int} {V J U : Nat → Nat → Int} {R : Nat → Nat → Nat} (h : f_s_push v V J R U) (hb : 0 ≤ V 69 2 ∧ V 69 2 < 40) : U = up2 (up2 V 71 (V 69 2).toNat v) 69 2 (V 69 2 + 1) := by
  unfold f_s_push at h
  simp only [rdb] at h
  rw [if_neg (by omega), if_neg (by omega)] at h
  exact h
theorem q_pop {a : Int} {V J U : Nat → Nat → Int} {R : Nat → Nat → Nat} (h : f_s_pop V J R (a, U)) (hb : 1 ≤ V 69 2 ∧ V 69 2 ≤ 40) : a = V 71 (V 69 2 - 1).toNat ∧ U = up2 V 69 2 (V 69 2 - 1) := by
  unfold f_s_pop at h
  simp only [rdb] at h
  rw [if_neg (by omega), if_pos (by omega), up2_n _ _ (Or.inl (by decide))] at h
  simp only [rtn, Prod.mk.injEq] at h
  exact h
/-- what an operator makes of two numbers -/
def rkn (op x y : Int) : Int := if op = 2 then wr (x + y) else if op = 3 then wr (x - y) else if op = 4 then wr (x * y) else if op = 5 then iDiv x y else if op = 6 then iRem x y else if op = 7 then (if x < y then 1 else 0) else if op = 8 then (if y < x then 1 else 0) else if x = y then 1 else 0
theorem q_mReckon {op x y r : Int} (h : f_m_reckon op x y r) : r = rkn op x y := by
  simp only [f_m_reckon, rdb] at h
  unfold rkn
  repeat' split at h
  all_goals (simp only [rtn] at h; subst h)
  all_goals (first | rfl | skip)
  all_goals (simp only [*, if_true, if_false]; try omega)
theorem up2_same {W : Nat → Nat → Int} {i k : Nat} {a : Int} (h : W i k = a) : up2 W i k a = W := by
  funext j q
  by_cases e : j = i ∧ q = k
  · obtain ⟨rfl, rfl⟩ := e
    rw [up2_s]; exact h.symm
  · rw [up2_n _ _ (by omega)]
/-- the two stacks of n numbers -/
def RI (Vx Vm V W : Nat → Nat → Int) (n : Int) : Prop := V 69 2 = n ∧ V 69 3 = 0 ∧ (∀ j : Nat, (j : Int) < n → V 71 j = W 17 j) ∧ (∀ i : Nat, i ≠ 69 → i ≠ 71 → V i = Vx i) ∧ ∀ i : Nat, i ≠ 17 → W i = Vm i
theorem RI.push {Vx Vm V W : Nat → Nat → Int} {n v : Int} (h : RI Vx Vm V W n) (hn : 0 ≤ n) : RI Vx Vm (up2 (up2 V 71 n.toNat v) 69 2 (n + 1)) (up2 W 17 n.toNat v) (n + 1) := by
  obtain ⟨h1, h2, h3, h4, h5⟩ := h
  refine ⟨up2_s _ _ _ _, ?_, fun j hj => ?_, fun i i1 i2 => ?_, fun i hi => ?_⟩
  · rw [up2_n _ _ (Or.inr (by decide)), up2_n _ _ (Or.inl (by decide))]; exact h2
  · rw [up2_n _ _ (Or.inl (by decide))]
    by_cases e : j = n.toNat
    · subst e; rw [up2_s, up2_s]
    · rw [up2_n _ _ (Or.inr e), up2_n _ _ (Or.inr e)]; exact h3 j (by omega)
  · rw [up2_c _ _ i1, up2_c _ _ i2]; exact h4 i i1 i2
  · rw [up2_c _ _ hi]; exact h5 i hi
theorem RI.pop {Vx Vm V W : Nat → Nat → Int} {n : Int} (h : RI Vx Vm V W n) : RI Vx Vm (up2 V 69 2 (n - 1)) W (n - 1) := by
  obtain ⟨h1, h2, h3, h4, h5⟩ := h
  refine ⟨up2_s _ _ _ _, ?_, fun j hj => ?_, fun i i1 i2 => ?_, h5⟩
  · rw [up2_n _ _ (Or.inr (by decide))]; exact h2
  · rw [up2_n _ _ (Or.inl (by decide))]; exact h3 j (by omega)
  · rw [up2_c _ _ i1]; exact h4 i i1 i2
theorem RI.top {Vx Vm V W : Nat → Nat → Int} {n : Int} (h : RI Vx Vm V W n) (hn : 1 ≤ n) : V 71 (n - 1).toNat = W 17 (n - 1).toNat := h.2.2.1 _ (by omega)
theorem RI.dpop {Vx Vm V W J U : Nat → Nat → Int} {R : Nat → Nat → Nat} {n a : Int} (h : RI Vx Vm V W n) (hn : 1 ≤ n ∧ n ≤ 40) (hp : f_s_pop V J R (a, U)) : a = W 17 (n - 1).toNat ∧ RI Vx Vm U W (n - 1) := by
  have e := h.1
  obtain ⟨p1, p2⟩ := q_pop hp (by omega)
  rw [e] at p1 p2
  subst p2
  exact ⟨p1.trans (h.top hn.1), h.pop⟩
theorem RI.dpush {Vx Vm V W J U : Nat → Nat → Int} {R : Nat → Nat → Nat} {n v : Int} (h : RI Vx Vm V W n) (hn : 0 ≤ n ∧ n < 40) (hp : f_s_push v V J R U) : RI Vx Vm U (up2 W 17 n.toNat v) (n + 1) := by
  have e := h.1
  have p := q_push hp (by omega)
  rw [e] at p
  subst p
  exact h.push hn.1
theorem q_sReckon {op x y r : Int} {V J U : Nat → Nat → Int} {R : Nat → Nat → Nat} (h : f_s_reckon op x y V J R (r, U)) (ho : 2 ≤ op ∧ op ≤ 9) : ((op = 5 ∨ op = 6) ∧ y = 0 ∧ U = up2 V 69 3 1) ∨ (¬ ((op = 5 ∨ op = 6) ∧ y = 0) ∧ r = rkn op x y ∧ U = V) := by
  simp only [f_s_reckon, rdb] at h
  unfold rkn
  rcases (show op = 2 ∨ op = 3 ∨ op = 4 ∨ op = 5 ∨ op = 6 ∨ op = 7 ∨ op = 8 ∨ op = 9 by omega) with rfl | rfl | rfl | rfl | rfl | rfl | rfl | rfl
  · rw [if_pos rfl] at h
    simp only [rtn, Prod.mk.injEq] at h
    exact Or.inr ⟨by omega, h.1, h.2⟩
  · rw [if_neg (by decide), if_pos rfl] at h
    simp only [rtn, Prod.mk.injEq] at h
    exact Or.inr ⟨by omega, h.1, h.2⟩
  · rw [if_neg (by decide), if_neg (by decide), if_pos rfl] at h
    simp only [rtn, Prod.mk.injEq] at h
    exact Or.inr ⟨by omega, h.1, h.2⟩
  · rw [if_neg (by decide), if_neg (by decide), if_neg (by decide), if_pos rfl] at h
    by_cases hy : y = 0
    · rw [if_neg (fun hh => hh hy)] at h
      simp only [rtn, Prod.mk.injEq] at h
      exact Or.inl ⟨by omega, hy, h.2⟩
    · rw [if_pos hy] at h
      simp only [rtn, Prod.mk.injEq] at h
      exact Or.inr ⟨by omega, h.1, h.2⟩
  · rw [if_neg (by decide), if_neg (by decide), if_neg (by decide), if_neg (by decide), if_pos rfl] at h
    by_cases hy : y = 0
    · rw [if_neg (fun hh => hh hy)] at h
      simp only [rtn, Prod.mk.injEq] at h
      exact Or.inl ⟨by omega, hy, h.2⟩
    · rw [if_pos hy] at h
      simp only [rtn, Prod.mk.injEq] at h
      exact Or.inr ⟨by omega, h.1, h.2⟩
  · rw [if_neg (by decide), if_neg (by decide), if_neg (by decide), if_neg (by decide), if_neg (by decide), if_pos rfl] at h
    refine Or.inr ⟨by omega, ?_⟩
    by_cases hy : y ≤ x
    · rw [if_pos hy] at h
      simp only [rtn, Prod.mk.injEq] at h
      refine ⟨?_, h.2⟩
      show r = if x < y then 1 else 0
      rw [if_neg (by omega)]; exact h.1
    · rw [if_neg hy] at h
      simp only [rtn, Prod.mk.injEq] at h
      refine ⟨?_, h.2⟩
      show r = if x < y then 1 else 0
      rw [if_pos (by omega)]; exact h.1
  · rw [if_neg (by decide), if_neg (by decide), if_neg (by decide), if_neg (by decide), if_neg (by decide), if_neg (by decide), if_pos rfl] at h
    refine Or.inr ⟨by omega, ?_⟩
    by_cases hy : x ≤ y
    · rw [if_pos hy] at h
      simp only [rtn, Prod.mk.injEq] at h
      refine ⟨?_, h.2⟩
      show r = if y < x then 1 else 0
      rw [if_neg (by omega)]; exact h.1
    · rw [if_neg hy] at h
      simp only [rtn, Prod.mk.injEq] at h
      refine ⟨?_, h.2⟩
      show r = if y < x then 1 else 0
      rw [if_pos (by omega)]; exact h.1
  · rw [if_neg (by decide), if_neg (by decide), if_neg (by decide), if_neg (by decide), if_neg (by decide), if_neg (by decide), if_neg (by decide), if_pos rfl] at h
    refine Or.inr ⟨by omega, ?_⟩
    by_cases hy : x = y
    · rw [if_neg (fun hh => hh hy)] at h
      simp only [rtn, Prod.mk.injEq] at h
      refine ⟨?_, h.2⟩
      show r = if x = y then 1 else 0
      rw [if_pos hy]; exact h.1
    · rw [if_pos hy] at h
      simp only [rtn, Prod.mk.injEq] at h
      refine ⟨?_, h.2⟩
      show r = if x = y then 1 else 0
      rw [if_neg hy]; exact h.1
theorem rkn_b {op x y : Int} (h : 7 ≤ op ∧ op ≤ 9) : rkn op x y = 0 ∨ rkn op x y = 1 := by
  unfold rkn
  rw [if_neg (by omega), if_neg (by omega), if_neg (by omega), if_neg (by omega), if_neg (by omega)]
  repeat' split
  all_goals simp
def hgt (a : Int) : Int := if a = -1 then 1 else a
theorem hgt_p {a : Int} (h : 0 ≤ a) : hgt a = a := by unfold hgt; rw [if_neg (by omega)]
theorem hgt_m {a : Int} (h : a = -1) : hgt a = 1 := by unfold hgt; rw [if_pos h]
/-- a program comes to the same on both sides -/
theorem q_run {t tx : Nat} {Vx Jx Vm Jm U X : Nat → Nat → Int} {Rx Rm : Nat → Nat → Nat} {f e c a b : Int} (ht : isTx t) (hL : 0 ≤ f ∧ f ≤ e ∧ e ≤ Vx t 1 ∧ Vx t 1 ≤ 200) (htx : tx < 5) (hS : RS (Vx (t + 1)) (Vm 11) tx f e c) (hc : c = 1 ∨ c = -1) (hF : RF Vx Vm)
    (hx : f_s_run t f e Vx Jx Rx (a, U)) (hm : f_m_comesTo (220 * (tx : Int) + f) (220 * (tx : Int) + e) Vm Jm Rm (b, X)) : a = b ∧ (c = -1 → a = 0 ∨ a = 1) ∧ U 70 = Vx 70 ∧ ∀ i : Nat, i ≠ 17 → X i = Vm i := by
  obtain ⟨τ, hτ0, hτ1, hS⟩ := hS
  have t1 : (t ≠ 69 ∧ t ≠ 71) ∧ t + 1 ≠ 69 ∧ t + 1 ≠ 71 := by rcases ht with rfl | rfl | rfl | rfl | rfl | rfl <;> decide
  simp only [f_s_run, rdb, jnk] at hx
  simp only [f_m_comesTo, rdb] at hm
  obtain ⟨-, hm⟩ := hm
  have hbase : iDiv (220 * (tx : Int) + f) 220 = tx := by
    rw [iDiv_p (by omega) (by omega)]; omega
  rw [hbase] at hm
  obtain ⟨bX, hbX, hx⟩ := lop3_g hx
  obtain ⟨bM, hbM, hm⟩ := lop3_g hm
  have key : ∀ (n m : Nat) (i z h : Int) (V W : Nat → Nat → Int), f ≤ z ∧ z ≤ e ∧ 0 ≤ i ∧ f + i ≤ z → RI Vx Vm V W h → h = hgt (τ z) → (τ z = -1 → W 17 0 = 0 ∨ W 17 0 = 1) → lop3 n bX i z V (a, U) → lop3 m bM (220 * (tx : Int) + z) h W (b, X) → a = b ∧ (c = -1 → a = 0 ∨ a = 1) ∧ U 70 = Vx 70 ∧ ∀ i : Nat, i ≠ 17 → X i = Vm i := by
    intro n
    induction n with
    | zero => intro m i z h V W _ _ _ _ hx; exact False.elim hx
    | succ n ih =>
      intro m i z h V W hz hR hh hb hx hm
      cases m with
      | zero => exact False.elim hm
      | succ m =>
        rw [lop3_s hbX] at hx
        rw [lop3_s hbM] at hm
        rcases Int.lt_or_le z e with hlt | hge
        · obtain ⟨op, v, hw, hs, hy⟩ := hS z hz.1 hlt
          obtain ⟨c1, c2, c3⟩ := hs.cut
          have hs0 := hs
          obtain ⟨s1, s2, s3, s4, -⟩ := hs0
          have eV : V (t + 1) = Vx (t + 1) := hR.2.2.2.1 _ t1.2.1 t1.2.2
          have eV1 : V t = Vx t := hR.2.2.2.1 _ t1.1.1 t1.1.2
          have eL : V 70 = Vx 70 := hR.2.2.2.1 _ (by decide) (by decide)
          have eW : W 11 = Vm 11 := hR.2.2.2.2 _ (by decide)
          have eF : W 18 = Vm 18 := hR.2.2.2.2 _ (by decide)
          have ez : (220 * (tx : Int) + z).toNat = 220 * tx + z.toNat := by omega
          have mw := mwd (op := op) (v := v) ⟨s1, s2⟩ ⟨s3, s4⟩
          rw [if_neg (by omega), if_neg (by omega), if_neg (by omega)] at hx
          obtain ⟨-, hx⟩ := hx
          rw [if_neg (by rw [eV1]; omega)] at hx
          obtain ⟨-, hx⟩ := hx
          rw [if_neg (fun hh => hh hR.2.1), eV, c1] at hx
          obtain ⟨-, hx⟩ := hx
          rw [if_neg (by omega), ez, eW, hw, mw.1, mw.2] at hm
          obtain ⟨-, -, hm⟩ := hm
          rcases hy with ⟨o, y1, y2, y3⟩ | ⟨o, yv, y1, y2, y3⟩ | ⟨o1, o2, y1, y2, y3⟩ | ⟨o1, o2, y1, y2⟩ | ⟨o, y1, y2⟩ | ⟨o, y1, y2, y3, y4, y5⟩
          · subst o
            rw [if_neg (by decide), c2 (by decide)] at hx
            rw [if_pos rfl] at hm
            obtain ⟨Y, hp, -, hx⟩ := hx
            have hd := hR.dpush (by rw [hh, hgt_p y1]; omega) hp
            refine ih m (i + 1) (z + 1) (h + 1) Y _ ⟨by omega, by omega, by omega, by omega⟩ hd (by rw [hh, hgt_p y1, hgt_p (by omega), y3]) (fun hq => by omega) hx ?_
            rw [show 220 * (tx : Int) + (z + 1) = 220 * (tx : Int) + z + 1 by omega]
            exact hm
          · subst o
            have hfb := fc_b v.toNat
            have hx0 := (c3 rfl).2
            rw [if_pos (by decide), if_neg (by decide), hx0, if_neg (by omega), if_neg (by omega)] at hx
            rw [if_neg (by decide), if_neg (by decide)] at hm
            obtain ⟨Y, hp, -, hx⟩ := hx
            rw [Int.toNat_natCast, eL, hF v.toNat (by clear s4 mw hw; omega)] at hp
            have hd := hR.dpush (by rw [hh, hgt_p y1]; omega) hp
            rw [eF] at hm
            refine ih m (i + 1) (z + 1) (h + 1) Y _ ⟨by omega, by omega, by omega, by omega⟩ hd (by rw [hh, hgt_p y1, hgt_p (by omega), y3]) (fun hq => by omega) hx ?_
            rw [show 220 * (tx : Int) + (z + 1) = 220 * (tx : Int) + z + 1 by omega]
            exact hm
          · have eh : h = τ z := by rw [hh, hgt_p (by omega)]
            rw [if_pos (by omega), if_pos (by omega), if_pos (by omega), if_neg (by omega), if_pos (by omega)] at hx
            obtain ⟨y, Y, hp, -, hx⟩ := hx
            obtain ⟨p1, q1⟩ := hR.dpop (by omega) hp
            obtain ⟨x, Y2, hp2, -, hx⟩ := hx
            obtain ⟨p2, q2⟩ := q1.dpop (by omega) hp2
            obtain ⟨r, Y3, hp3, -, hx⟩ := hx
            obtain ⟨Y4, hp4, -, hx⟩ := hx
            rw [show h - 1 - 1 = h - 2 by omega] at p2 q2
            rcases q_sReckon hp3 (by omega) with ⟨k1, k2, k3⟩ | ⟨k1, k2, k3⟩
            · subst k3
              have e4 := q_push hp4 (by rw [up2_n _ _ (Or.inr (by decide)), q2.1]; omega)
              have h31 : Y4 69 3 = 1 := by rw [e4, up2_n _ _ (Or.inr (by decide)), up2_n _ _ (Or.inl (by decide)), up2_s]
              have h70 : Y4 70 = Vx 70 := by rw [e4, up2_c _ _ (by decide), up2_c _ _ (by decide), up2_c _ _ (by decide)]; exact q2.2.2.2.1 70 (by decide) (by decide)
              have h0 : a = 0 ∧ U = Y4 := by
                cases n with
                | zero => exact False.elim hx
                | succ n2 =>
                  rw [lop3_s hbX] at hx
                  have h32 : ¬ Y4 69 3 = 0 := by rw [h31]; decide
                  by_cases g1 : 200 ≤ i + 1
                  · rw [if_pos g1] at hx
                    obtain ⟨-, hx⟩ := hx
                    rw [if_neg h32] at hx
                    simp only [rtn, Prod.mk.injEq] at hx
                    exact hx
                  · rw [if_neg g1, if_neg (by omega)] at hx
                    by_cases g3 : e ≤ z + 1
                    · rw [if_pos g3] at hx
                      obtain ⟨-, hx⟩ := hx
                      rw [if_neg h32] at hx
                      simp only [rtn, Prod.mk.injEq] at hx
                      exact hx
                    · rw [if_neg g3] at hx
                      obtain ⟨-, hx⟩ := hx
                      by_cases g4 : Y4 t 1 ≤ z + 1
                      · rw [if_pos g4] at hx
                        obtain ⟨-, hx⟩ := hx
                        rw [if_neg h32] at hx
                        simp only [rtn, Prod.mk.injEq] at hx
                        exact hx
                      · rw [if_neg g4] at hx
                        obtain ⟨-, hx⟩ := hx
                        rw [if_pos h32] at hx
                        obtain ⟨-, hx⟩ := hx
                        rw [if_neg h32] at hx
                        simp only [rtn, Prod.mk.injEq] at hx
                        exact hx
              have hb0 : b = 0 ∧ X = W := by
                rw [if_neg (by omega), if_pos (by omega), if_pos (by omega), if_neg (by omega), if_pos (by omega)] at hm
                by_cases o5 : op = 5
                · rw [if_pos o5, if_neg (fun hq => hq (by omega))] at hm
                  simp only [rtn, Prod.mk.injEq] at hm
                  exact hm
                · rw [if_neg o5, if_neg (fun hq => hq (by omega)), if_neg (fun hq => hq (by omega))] at hm
                  simp only [rtn, Prod.mk.injEq] at hm
                  exact hm
              exact ⟨by omega, fun _ => Or.inl h0.1, by rw [h0.2]; exact h70, fun j hj => by rw [hb0.2]; exact hR.2.2.2.2 j hj⟩
            · subst k3
              have hd := q2.dpush (by omega) hp4
              rw [show h - 2 + 1 = h - 1 by omega] at hd
              have hm2 : lop3 m bM (220 * (tx : Int) + z + 1) (h - 1) (up2 W 17 (h - 2).toNat r) (b, X) := by
                rw [if_neg (by omega), if_pos (by omega), if_pos (by omega), if_neg (by omega), if_pos (by omega)] at hm
                rw [p1] at k1 k2
                rw [p2] at k2
                by_cases o5 : op = 5
                · rw [if_pos o5, if_pos (fun hq => k1 ⟨Or.inl o5, hq⟩)] at hm
                  obtain ⟨rr, hr, hm⟩ := hm
                  rw [k2, ← q_mReckon hr]
                  exact hm
                · rw [if_neg o5] at hm
                  by_cases o6 : op = 6
                  · rw [if_neg (fun hq => hq o6), if_pos (fun hq => k1 ⟨Or.inr o6, hq⟩)] at hm
                    obtain ⟨rr, hr, hm⟩ := hm
                    rw [k2, ← q_mReckon hr]
                    exact hm
                  · rw [if_pos o6] at hm
                    obtain ⟨rr, hr, hm⟩ := hm
                    rw [k2, ← q_mReckon hr]
                    exact hm
              refine ih m (i + 1) (z + 1) (h - 1) Y4 _ ⟨by omega, by omega, by omega, by omega⟩ hd (by rw [eh, hgt_p (by omega), y3]) (fun hq => by omega) hx ?_
              rw [show 220 * (tx : Int) + (z + 1) = 220 * (tx : Int) + z + 1 by omega]
              exact hm2
          · have eh : h = 2 := by rw [hh, hgt_p (by omega), y1]
            rw [if_pos (by omega), if_pos (by omega), if_pos (by omega), if_neg (by omega), if_pos (by omega)] at hx
            obtain ⟨y, Y, hp, -, hx⟩ := hx
            obtain ⟨p1, q1⟩ := hR.dpop (by omega) hp
            obtain ⟨x, Y2, hp2, -, hx⟩ := hx
            obtain ⟨p2, q2⟩ := q1.dpop (by omega) hp2
            obtain ⟨r, Y3, hp3, -, hx⟩ := hx
            obtain ⟨Y4, hp4, -, hx⟩ := hx
            rw [show h - 1 - 1 = h - 2 by omega] at p2 q2
            rcases q_sReckon hp3 (by omega) with ⟨k1, k2, k3⟩ | ⟨k1, k2, k3⟩
            · omega
            · subst k3
              have hd := q2.dpush (by omega) hp4
              rw [show h - 2 + 1 = h - 1 by omega] at hd
              have hm2 : lop3 m bM (220 * (tx : Int) + z + 1) (h - 1) (up2 W 17 (h - 2).toNat r) (b, X) := by
                rw [if_neg (by omega), if_pos (by omega), if_pos (by omega), if_neg (by omega), if_pos (by omega), if_neg (by omega), if_pos (by omega)] at hm
                obtain ⟨rr, hr, hm⟩ := hm
                rw [p1, p2] at k2
                rw [k2, ← q_mReckon hr]
                exact hm
              refine ih m (i + 1) (z + 1) (h - 1) Y4 _ ⟨by omega, by omega, by omega, by omega⟩ hd (by rw [eh, hgt_m y2]; rfl) (fun hq => ?_) hx ?_
              · rw [eh, show ((2 : Int) - 2).toNat = 0 by decide, up2_s, k2]
                exact rkn_b ⟨o1, o2⟩
              · rw [show 220 * (tx : Int) + (z + 1) = 220 * (tx : Int) + z + 1 by omega]
                exact hm2
          · subst o
            have eh : h = 1 := by rw [hh, hgt_m y1]
            subst eh
            rw [if_pos (by decide), if_pos (by decide), if_neg (by decide)] at hx
            rw [if_neg (by decide), if_pos (by decide), if_neg (by decide)] at hm
            obtain ⟨y, Y, hp, -, hx⟩ := hx
            obtain ⟨p1, q1⟩ := hR.dpop (by omega) hp
            obtain ⟨Y2, hp2, -, hx⟩ := hx
            have hd := q1.dpush (by omega) hp2
            rw [p1] at hd
            refine ih m (i + 1) (z + 1) 1 Y2 _ ⟨by omega, by omega, by omega, by omega⟩ hd (by rw [hgt_m y2]) (fun hq => ?_) hx ?_
            · rw [show ((1 : Int) - 1).toNat = 0 by decide, up2_s]
              rcases hb y1 with k | k
              · rw [k]; right; decide
              · rw [k]; left; decide
            · rw [show 220 * (tx : Int) + (z + 1) = 220 * (tx : Int) + z + 1 by omega]
              exact hm
          · have eh : h = 1 := by rw [hh, hgt_m y1]
            subst eh
            have e0 : ((1 : Int) - 1).toNat = 0 := by decide
            have ev : iShr (Vx (t + 1) z.toNat) 4 = v := c2 (by omega)
            rw [ev] at hx
            have jump : ∀ Y2 : Nat → Nat → Int, RI Vx Vm Y2 W 1 → lop3 n bX (i + 1) v Y2 (a, U) → lop3 m bM (220 * (tx : Int) + v) 1 W (b, X) → a = b ∧ (c = -1 → a = 0 ∨ a = 1) ∧ U 70 = Vx 70 ∧ ∀ i : Nat, i ≠ 17 → X i = Vm i := fun Y2 hR2 hx2 hm2 => ih m (i + 1) v 1 Y2 W ⟨by clear s4 mw hw; omega, by clear s4 mw hw; omega, by clear s4 mw hw; omega, by clear s4 mw hw; omega⟩ hR2 (by rw [hgt_m y5]) (fun _ => hb y1) hx2 hm2
            have next : ∀ Y2 : Nat → Nat → Int, RI Vx Vm Y2 W 0 → lop3 n bX (i + 1) (z + 1) Y2 (a, U) → lop3 m bM (220 * (tx : Int) + z + 1) (1 - 1) W (b, X) → a = b ∧ (c = -1 → a = 0 ∨ a = 1) ∧ U 70 = Vx 70 ∧ ∀ i : Nat, i ≠ 17 → X i = Vm i := fun Y2 hR2 hx2 hm2 => ih m (i + 1) (z + 1) 0 Y2 W ⟨by omega, by omega, by omega, by omega⟩ hR2 (by rw [y2]; rfl) (fun hq => by omega) hx2 (by rw [show 220 * (tx : Int) + (z + 1) = 220 * (tx : Int) + z + 1 by omega]; exact hm2)
            have hbb := hb y1
            rcases o with o | o
            · subst o
              rw [if_pos (by decide), if_pos (by decide), if_pos (by decide), if_pos rfl] at hx
              rw [if_neg (by decide), if_pos (by decide), if_pos (by decide), if_pos rfl, e0] at hm
              obtain ⟨y, Y, hp, -, hx⟩ := hx
              obtain ⟨p1, q1⟩ := hR.dpop (by omega) hp
              rw [e0] at p1
              by_cases hy0 : y = 0
              · rw [if_neg (fun hq => hq hy0), if_neg (fun hq => hq trivial)] at hx
                rw [if_neg (fun hq => hq (by omega))] at hm
                obtain ⟨Y2, hp2, -, hx⟩ := hx
                have hd := q1.dpush (by omega) hp2
                rw [show ((1 : Int) - 1).toNat = 0 by decide, up2_same p1.symm] at hd
                exact jump Y2 hd hx hm
              · rw [if_pos hy0, if_pos (by decide)] at hx
                rw [if_pos (by omega)] at hm
                exact next Y q1 hx hm
            · subst o
              rw [if_pos (by decide), if_pos (by decide), if_pos (by decide), if_neg (by decide), if_neg (by decide)] at hx
              rw [if_neg (by decide), if_pos (by decide), if_pos (by decide), if_neg (by decide), if_neg (by decide), e0] at hm
              obtain ⟨y, Y, hp, -, hx⟩ := hx
              obtain ⟨p1, q1⟩ := hR.dpop (by omega) hp
              rw [e0] at p1
              by_cases hy0 : y = 0
              · rw [if_neg (fun hq => hq hy0), if_pos (by decide)] at hx
                rw [if_pos (by omega)] at hm
                exact next Y q1 hx hm
              · rw [if_pos hy0, if_neg (by decide)] at hx
                rw [if_neg (by omega)] at hm
                obtain ⟨Y2, hp2, -, hx⟩ := hx
                have hd := q1.dpush (by omega) hp2
                rw [show ((1 : Int) - 1).toNat = 0 by decide, up2_same p1.symm] at hd
                exact jump Y2 hd hx hm
        · have ez : z = e := by omega
          subst ez
          have hfin : ∃ (Y : Nat → Nat → Int), f_s_pop V Jx Rx (a, Y) ∧ U = Y := by
            have fin : ∀ K : Int × (Nat → Nat → Int) → Prop, (K (a, U) → ∃ (Y : Nat → Nat → Int), f_s_pop V Jx Rx (a, Y) ∧ U = Y) → K (a, U) → ∃ (Y : Nat → Nat → Int), f_s_pop V Jx Rx (a, Y) ∧ U = Y := fun K h k => h k
            by_cases h200 : 200 ≤ i
            · rw [if_pos h200] at hx
              obtain ⟨-, hx⟩ := hx
              rw [if_pos hR.2.1] at hx
              obtain ⟨y, Y, hp, -, hx⟩ := hx
              simp only [rtn, Prod.mk.injEq] at hx
              exact ⟨Y, by rw [hx.1]; exact hp, hx.2⟩
            · rw [if_neg h200, if_neg (by omega), if_pos (by omega)] at hx
              obtain ⟨-, hx⟩ := hx
              rw [if_pos hR.2.1] at hx
              obtain ⟨y, Y, hp, -, hx⟩ := hx
              simp only [rtn, Prod.mk.injEq] at hx
              exact ⟨Y, by rw [hx.1]; exact hp, hx.2⟩
          obtain ⟨Y, hp, hU⟩ := hfin
          rw [if_pos (by omega)] at hm
          simp only [rtn, Prod.mk.injEq] at hm
          have eh : h = 1 := by
            rw [hh, hτ1]
            rcases hc with rfl | rfl
            · exact hgt_p (by decide)
            · exact hgt_m rfl
          subst eh
          obtain ⟨p1, q1⟩ := hR.dpop (by omega) hp
          rw [show ((1 : Int) - 1).toNat = 0 by decide] at p1
          refine ⟨p1.trans hm.1.symm, fun hcc => ?_, ?_, fun i hi => ?_⟩
          · rw [p1]; exact hb (by rw [hτ1, hcc])
          · rw [hU]; exact q1.2.2.2.1 70 (by decide) (by decide)
          · rw [hm.2]; exact hR.2.2.2.2 i hi
  refine key 202 _ 0 f 0 _ Vm ⟨by omega, by omega, by omega, by omega⟩ ⟨?_, ?_, fun j hj => by omega, fun i i1 i2 => ?_, fun i _ => rfl⟩ (by rw [hτ0]; rfl) (fun hq => by omega) hx hm
  · rw [up2_n _ _ (Or.inr (by decide)), up2_s]
  · rw [up2_s]
  · rw [up2_c _ _ i1, up2_c _ _ i1]
