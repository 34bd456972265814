section
-- texts on both sides; what they come to (own work)
/-- the reference's fact i is the first side's letter fc i -/
def fc : Nat → Nat
  | 0 => 3
  | 1 => 22
  | 2 => 11
  | 3 => 14
  | 4 => 5
  | 5 => 18
  | 6 => 24
  | 7 => 25
  | 8 => 15
  | 9 => 19
  | 10 => 13
  | 11 => 0
  | _ => 16
theorem fc_b (i : Nat) : fc i < 26 := by unfold fc; split <;> decide
/-- one step of a program: the first side's word, the reference's -/
def stp (s op v : Int) : Prop := 0 ≤ op ∧ op ≤ 12 ∧ 0 ≤ v ∧ v < 1048576 ∧ ((¬ op = 1 ∧ s = op + 16 * v) ∨ (op = 1 ∧ v ≤ 12 ∧ s = 1 + 16 * ((fc v.toNat : Nat) : Int)))
/-- the stack's height ahead of each step; -1: one truth alone -/
def sTy (t : Int) (τ : Int → Int) (z op v : Int) : Prop :=
  (op = 0 ∧ 0 ≤ τ z ∧ τ z ≤ 38 ∧ τ (z + 1) = τ z + 1) ∨ (op = 1 ∧ v ≤ 12 ∧ 0 ≤ τ z ∧ τ z ≤ 38 ∧ τ (z + 1) = τ z + 1) ∨
  (2 ≤ op ∧ op ≤ 6 ∧ 2 ≤ τ z ∧ τ z ≤ 39 ∧ τ (z + 1) = τ z - 1) ∨ (7 ≤ op ∧ op ≤ 9 ∧ τ z = 2 ∧ τ (z + 1) = -1) ∨
  (op = 10 ∧ τ z = -1 ∧ τ (z + 1) = -1) ∨ ((op = 11 ∨ op = 12) ∧ τ z = -1 ∧ τ (z + 1) = 0 ∧ z < v ∧ v ≤ t ∧ τ v = -1)
/-- the steps from f to t, of the first side's text t0 and the reference's text tx -/
def RS (s w : Nat → Int) (tx : Nat) (f t e : Int) : Prop := ∃ τ : Int → Int, τ f = 0 ∧ τ t = e ∧ ∀ z : Int, f ≤ z → z < t → ∃ op v : Int, w (220 * tx + z.toNat) = 1048576 * op + v ∧ stp (s z.toNat) op v ∧ sTy t τ z op v
def RC1 (t tx : Nat) (Vx Vm : Nat → Nat → Int) (j : Nat) : Prop :=
  Vx (t + 2) j = Vm 13 (14 * tx + j) ∧ Vm 14 (14 * tx + j) = 220 * tx + Vx (t + 3) j ∧ Vm 15 (14 * tx + j) = 220 * tx + Vx (t + 4) j ∧ Vm 16 (14 * tx + j) = 220 * tx + Vx (t + 3) (j + 1) ∧
  0 ≤ Vx (t + 3) j ∧ Vx (t + 3) j ≤ Vx (t + 4) j ∧ Vx (t + 4) j ≤ Vx (t + 3) (j + 1) ∧ Vx (t + 3) (j + 1) ≤ Vx t 1 ∧
  RS (Vx (t + 1)) (Vm 11) tx (Vx (t + 3) j) (Vx (t + 4) j) 1 ∧ RS (Vx (t + 1)) (Vm 11) tx (Vx (t + 4) j) (Vx (t + 3) (j + 1)) (-1)
/-- the first side's text t is the reference's text tx -/
def RTz (t tx : Nat) (Vx Vm : Nat → Nat → Int) : Prop :=
  Vx t 5 = Vm 12 tx ∧ (0 ≤ Vx t 5 ∧ Vx t 5 ≤ 14) ∧ (0 ≤ Vx t 1 ∧ Vx t 1 ≤ 200) ∧ ∀ j : Nat, (j : Int) < Vx t 5 → RC1 t tx Vx Vm j
/-- facts -/
def RF (Vx Vm : Nat → Nat → Int) : Prop := ∀ i : Nat, i < 13 → Vx 70 (fc i) = Vm 18 i
theorem RTz.cg {t tx : Nat} {Vx Vm Ux Um : Nat → Nat → Int} (h : RTz t tx Vx Vm) (hx : ∀ i k : Nat, t ≤ i → i ≤ t + 4 → Ux i k = Vx i k) (hm : ∀ i k : Nat, 11 ≤ i → i ≤ 16 → Um i k = Vm i k) : RTz t tx Ux Um := by
  have e1 : Ux (t + 1) = Vx (t + 1) := funext fun k => hx _ _ (by omega) (by omega)
  have e2 : Um 11 = Vm 11 := funext fun k => hm _ _ (by omega) (by omega)
  obtain ⟨h1, h2, h3, h4⟩ := h
  refine ⟨?_, ?_, ?_, fun j hj => ?_⟩
  · rw [hx t 5 (by omega) (by omega), hm 12 tx (by omega) (by omega)]; exact h1
  · rw [hx t 5 (by omega) (by omega)]; exact h2
  · rw [hx t 1 (by omega) (by omega)]; exact h3
  · rw [hx t 5 (by omega) (by omega)] at hj
    have h := h4 j hj
    unfold RC1 at h ⊢
    rw [e1, e2, hx (t + 2) j (by omega) (by omega), hx (t + 3) j (by omega) (by omega), hx (t + 4) j (by omega) (by omega), hx (t + 3) (j + 1) (by omega) (by omega), hx t 1 (by omega) (by omega), hm 13 _ (by omega) (by omega), hm 14 _ (by omega) (by omega), hm 15 _ (by omega) (by omega), hm 16 _ (by omega) (by omega)]
    exact h
theorem iShr_4 {a : Int} (h : R32 a) : iShr a 4 = a / 16 := by
  have e : iShr a 4 = ((Int32.ofInt a).toBitVec.sshiftRight' ((Int32.ofInt 4 &&& 31).toBitVec.smod 32)).toInt := rfl
  have e2 : (Int32.ofInt a).toBitVec.toInt = a := xi_toInt h
  rw [e, BitVec.toInt_sshiftRight', show ((Int32.ofInt 4 &&& 31).toBitVec.smod 32).toNat = 4 by decide, Int.shiftRight_eq_div_pow, e2]
  rfl
theorem iAnd_15 {z : Int} (h : 0 ≤ z ∧ z ≤ 2147483647) : iAnd z 15 = z % 16 := by
  obtain ⟨n, rfl⟩ : ∃ n : Nat, z = n := ⟨z.toNat, by omega⟩
  have := iAnd_n (a := n) (b := 15) (by omega) (by decide)
  rw [show ((15 : Nat) : Int) = 15 from rfl] at this
  rw [this, show (15 : Nat) = 2 ^ 4 - 1 from rfl, Nat.and_two_pow_sub_one_eq_mod]
  omega
/-- the first side's word, taken apart -/
theorem stp.cut {s op v : Int} (h : stp s op v) : iAnd s 15 = op ∧ (¬ op = 1 → iShr s 4 = v) ∧ (op = 1 → v ≤ 12 ∧ iShr s 4 = ((fc v.toNat : Nat) : Int)) := by
  obtain ⟨h1, h2, h3, h4, h5⟩ := h
  have hf := fc_b v.toNat
  rw [iAnd_15 (by omega), iShr_4 ⟨by omega, by omega⟩]
  refine ⟨by omega, fun h => by omega, fun h => ⟨by omega, by omega⟩⟩
/-- the reference's word, taken apart -/
theorem mwd {op v : Int} (h : 0 ≤ op ∧ op ≤ 12) (hv : 0 ≤ v ∧ v < 1048576) : iDiv (1048576 * op + v) 1048576 = op ∧ iRem (1048576 * op + v) 1048576 = v := by
  rw [iDiv_p (by omega) (by omega), iRem_p (by omega) (by omega)]
  omega
theorem q_push {v : Int} {V J U : Nat → Nat → Int} {R : Nat → Nat → Nat} (h : f_s_push v V J R U) (hb : 0 ≤ V 69 2 ∧ V 69 2 < 40) : U = up2 (up2 V 71 (V 69 2).toNat v) 69 2 (V 69 2 + 1) := by
  unfold f_s_push at h
  simp only [rdb] at h
  rw [if_neg (by omega), if_neg (by omega)] at h
  exact h
theorem q_pop {a : Int} {V J U : Nat → Nat → Int} {R : Nat → Nat → Nat} (h : f_s_pop V J R (a, U)) (hb : 1 ≤ V 69 2 ∧ V 69 2 ≤ 40) : a = V 71 (V 69 2 - 1).toNat ∧ U = up2 V 69 2 (V 69 2 - 1) := by
  unfold f_s_pop at h
  simp only [rdb] at h
  rw [if_neg (by omega), if_pos (by omega), up2_n _ _ (Or.inl (by decide))] at h
  simp only [rtn, Prod.mk.injEq] at h
  exact h
/-- what an operator makes of two numbers -/
def rkn (op x y : Int) : Int := if op = 2 then wr (x + y) else if op = 3 then wr (x - y) else if op = 4 then wr (x * y) else if op = 5 then iDiv x y else if op = 6 then iRem x y else if op = 7 then (if x < y then 1 else 0) else if op = 8 then (if y < x then 1 else 0) else if x = y then 1 else 0
theorem q_mReckon {op x y r : Int} (h : f_m_reckon op x y r) : r = rkn op x y := by
  simp only [f_m_reckon, rdb] at h
  unfold rkn
  repeat' split at h
  all_goals (simp only [rtn] at h; subst h)
  all_goals (first | rfl | skip)
  all_goals (simp only [*, if_true, if_false]; try omega)
theorem up2_same {W : Nat → Nat → Int} {i k : Nat} {a : Int} (h : W i k = a) : up2 W i k a = W := by
  funext j q
  by_cases e : j = i ∧ q = k
  · obtain ⟨rfl, rfl⟩ := e
    rw [up2_s]; exact h.symm
  · rw [up2_n _ _ (by omega)]
/-- the two stacks of n numbers -/
def RI (Vx Vm V W : Nat → Nat → Int) (n : Int) : Prop := V 69 2 = n ∧ V 69 3 = 0 ∧ (∀ j : Nat, (j : Int) < n → V 71 j = W 17 j) ∧ (∀ i : Nat, i ≠ 69 → i ≠ 71 → V i = Vx i) ∧ ∀ i : Nat, i ≠ 17 → W i = Vm i
theorem RI.push {Vx Vm V W : Nat → Nat → Int} {n v : Int} (h : RI Vx Vm V W n) (hn : 0 ≤ n) : RI Vx Vm (up2 (up2 V 71 n.toNat v) 69 2 (n + 1)) (up2 W 17 n.toNat v) (n + 1) := by
  obtain ⟨h1, h2, h3, h4, h5⟩ := h
  refine ⟨up2_s _ _ _ _, ?_, fun j hj => ?_, fun i i1 i2 => ?_, fun i hi => ?_⟩
  · rw [up2_n _ _ (Or.inr (by decide)), up2_n _ _ (Or.inl (by decide))]; exact h2
  · rw [up2_n _ _ (Or.inl (by decide))]
    by_cases e : j = n.toNat
    · subst e; rw [up2_s, up2_s]
    · rw [up2_n _ _ (Or.inr e), up2_n _ _ (Or.inr e)]; exact h3 j (by omega)
  · rw [up2_c _ _ i1, up2_c _ _ i2]; exact h4 i i1 i2
  · rw [up2_c _ _ hi]; exact h5 i hi
theorem RI.pop {Vx Vm V W : Nat → Nat → Int} {n : Int} (h : RI Vx Vm V W n) : RI Vx Vm (up2 V 69 2 (n - 1)) W (n - 1) := by
  obtain ⟨h1, h2, h3, h4, h5⟩ := h
  refine ⟨up2_s _ _ _ _, ?_, fun j hj => ?_, fun i i1 i2 => ?_, h5⟩
  · rw [up2_n _ _ (Or.inr (by decide))]; exact h2
  · rw [up2_n _ _ (Or.inl (by decide))]; exact h3 j (by omega)
  · rw [up2_c _ _ i1]; exact h4 i i1 i2
theorem RI.top {Vx Vm V W : Nat → Nat → Int} {n : Int} (h : RI Vx Vm V W n) (hn : 1 ≤ n) : V 71 (n - 1).toNat = W 17 (n - 1).toNat := h.2.2.1 _ (by omega)
theorem RI.dpop {Vx Vm V W J U : Nat → Nat → Int} {R : Nat → Nat → Nat} {n a : Int} (h : RI Vx Vm V W n) (hn : 1 ≤ n ∧ n ≤ 40) (hp : f_s_pop V J R (a, U)) : a = W 17 (n - 1).toNat ∧ RI Vx Vm U W (n - 1) := by
  have e := h.1
  obtain ⟨p1, p2⟩ := q_pop hp (by omega)
  rw [e] at p1 p2
  subst p2
  exact ⟨p1.trans (h.top hn.1), h.pop⟩
theorem RI.dpush {Vx Vm V W J U : Nat → Nat → Int} {R : Nat → Nat → Nat} {n v : Int} (h : RI Vx Vm V W n) (hn : 0 ≤ n ∧ n < 40) (hp : f_s_push v V J R U) : RI Vx Vm U (up2 W 17 n.toNat v) (n + 1) := by
  have e := h.1
  have p := q_push hp (by omega)
  rw [e] at p
  subst p
  exact h.push hn.1
theorem q_sReckon {op x y r : Int} {V J U : Nat → Nat → Int} {R : Nat → Nat → Nat} (h : f_s_reckon op x y V J R (r, U)) (ho : 2 ≤ op ∧ op ≤ 9) : ((op = 5 ∨ op = 6) ∧ y = 0 ∧ U = up2 V 69 3 1) ∨ (¬ ((op = 5 ∨ op = 6) ∧ y = 0) ∧ r = rkn op x y ∧ U = V) := by
  simp only [f_s_reckon, rdb] at h
  unfold rkn
  rcases (show op = 2 ∨ op = 3 ∨ op = 4 ∨ op = 5 ∨ op = 6 ∨ op = 7 ∨ op = 8 ∨ op = 9 by omega) with rfl | rfl | rfl | rfl | rfl | rfl | rfl | rfl
  · rw [if_pos rfl] at h
    simp only [rtn, Prod.mk.injEq] at h
    exact Or.inr ⟨by omega, h.1, h.2⟩
  · rw [if_neg (by decide), if_pos rfl] at h
    simp only [rtn, Prod.mk.injEq] at h
    exact Or.inr ⟨by omega, h.1, h.2⟩
  · rw [if_neg (by decide), if_neg (by decide), if_pos rfl] at h
    simp only [rtn, Prod.mk.injEq] at h
    exact Or.inr ⟨by omega, h.1, h.2⟩
  · rw [if_neg (by decide), if_neg (by decide), if_neg (by decide), if_pos rfl] at h
    by_cases hy : y = 0
    · rw [if_neg (fun hh => hh hy)] at h
      simp only [rtn, Prod.mk.injEq] at h
      exact Or.inl ⟨by omega, hy, h.2⟩
    · rw [if_pos hy] at h
      simp only [rtn, Prod.mk.injEq] at h
      exact Or.inr ⟨by omega, h.1, h.2⟩
  · rw [if_neg (by decide), if_neg (by decide), if_neg (by decide), if_neg (by decide), if_pos rfl] at h
    by_cases hy : y = 0
    · rw [if_neg (fun hh => hh hy)] at h
      simp only [rtn, Prod.mk.injEq] at h
      exact Or.inl ⟨by omega, hy, h.2⟩
    · rw [if_pos hy] at h
      simp only [rtn, Prod.mk.injEq] at h
      exact Or.inr ⟨by omega, h.1, h.2⟩
  · rw [if_neg (by decide), if_neg (by decide), if_neg (by decide), if_neg (by decide), if_neg (by decide), if_pos rfl] at h
    refine Or.inr ⟨by omega, ?_⟩
    by_cases hy : y ≤ x
    · rw [if_pos hy] at h
      simp only [rtn, Prod.mk.injEq] at h
      refine ⟨?_, h.2⟩
      show r = if x < y then 1 else 0
      rw [if_neg (by omega)]; exact h.1
    · rw [if_neg hy] at h
      simp only [rtn, Prod.mk.injEq] at h
      refine ⟨?_, h.2⟩
      show r = if x < y then 1 else 0
      rw [if_pos (by omega)]; exact h.1
  · rw [if_neg (by decide), if_neg (by decide), if_neg (by decide), if_neg (by decide), if_neg (by decide), if_neg (by decide), if_pos rfl] at h
    refine Or.inr ⟨by omega, ?_⟩
    by_cases hy : x ≤ y
    · rw [if_pos hy] at h
      simp only [rtn, Prod.mk.injEq] at h
      refine ⟨?_, h.2⟩
      show r = if y < x then 1 else 0
      rw [if_neg (by omega)]; exact h.1
    · rw [if_neg hy] at h
      simp only [rtn, Prod.mk.injEq] at h
      refine ⟨?_, h.2⟩
      show r = if y < x then 1 else 0
      rw [if_pos (by omega)]; exact h.1
  · rw [if_neg (by decide), if_neg (by decide), if_neg (by decide), if_neg (by decide), if_neg (by decide), if_neg (by decide), if_neg (by decide), if_pos rfl] at h
    refine Or.inr ⟨by omega, ?_⟩
    by_cases hy : x = y
    · rw [if_neg (fun hh => hh hy)] at h
      simp only [rtn, Prod.mk.injEq] at h
      refine ⟨?_, h.2⟩
      show r = if x = y then 1 else 0
      rw [if_pos hy]; exact h.1
    · rw [if_pos hy] at h
      simp only [rtn, Prod.mk.injEq] at h
      refine ⟨?_, h.2⟩
      show r = if x = y then 1 else 0
      rw [if_neg hy]; exact h.1
theorem rkn_b {op x y : Int} (h : 7 ≤ op ∧ op ≤ 9) : rkn op x y = 0 ∨ rkn op x y = 1 := by
  unfold rkn
  rw [if_neg (by omega), if_neg (by omega), if_neg (by omega), if_neg (by omega), if_neg (by omega)]
  repeat' split
  all_goals simp
def hgt (a : Int) : Int := if a = -1 then 1 else a
theorem hgt_p {a : Int} (h : 0 ≤ a) : hgt a = a := by unfold hgt; rw [if_neg (by omega)]
theorem hgt_m {a : Int} (h : a = -1) : hgt a = 1 := by unfold hgt; rw [if_pos h]
/-- a program comes to the same on both sides -/
theorem q_run {t tx : Nat} {Vx Jx Vm Jm U X : Nat → Nat → Int} {Rx Rm : Nat → Nat → Nat} {f e c a b : Int} (ht : isTx t) (hL : 0 ≤ f ∧ f ≤ e ∧ e ≤ Vx t 1 ∧ Vx t 1 ≤ 200) (htx : tx < 5) (hS : RS (Vx (t + 1)) (Vm 11) tx f e c) (hc : c = 1 ∨ c = -1) (hF : RF Vx Vm)
    (hx : f_s_run t f e Vx Jx Rx (a, U)) (hm : f_m_comesTo (220 * (tx : Int) + f) (220 * (tx : Int) + e) Vm Jm Rm (b, X)) : a = b ∧ (c = -1 → a = 0 ∨ a = 1) ∧ U 70 = Vx 70 ∧ ∀ i : Nat, i ≠ 17 → X i = Vm i := by
  obtain ⟨τ, hτ0, hτ1, hS⟩ := hS
  have t1 : (t ≠ 69 ∧ t ≠ 71) ∧ t + 1 ≠ 69 ∧ t + 1 ≠ 71 := by rcases ht with rfl | rfl | rfl | rfl | rfl | rfl <;> decide
  simp only [f_s_run, rdb, jnk] at hx
  simp only [f_m_comesTo, rdb] at hm
  obtain ⟨-, hm⟩ := hm
  have hbase : iDiv (220 * (tx : Int) + f) 220 = tx := by
    rw [iDiv_p (by omega) (by omega)]; omega
  rw [hbase] at hm
  obtain ⟨bX, hbX, hx⟩ := lop3_g hx
  obtain ⟨bM, hbM, hm⟩ := lop3_g hm
  have key : ∀ (n m : Nat) (i z h : Int) (V W : Nat → Nat → Int), f ≤ z ∧ z ≤ e ∧ 0 ≤ i ∧ f + i ≤ z → RI Vx Vm V W h → h = hgt (τ z) → (τ z = -1 → W 17 0 = 0 ∨ W 17 0 = 1) → lop3 n bX i z V (a, U) → lop3 m bM (220 * (tx : Int) + z) h W (b, X) → a = b ∧ (c = -1 → a = 0 ∨ a = 1) ∧ U 70 = Vx 70 ∧ ∀ i : Nat, i ≠ 17 → X i = Vm i := by
    intro n
    induction n with
    | zero => intro m i z h V W _ _ _ _ hx; exact False.elim hx
    | succ n ih =>
      intro m i z h V W hz hR hh hb hx hm
      cases m with
      | zero => exact False.elim hm
      | succ m =>
        rw [lop3_s hbX] at hx
        rw [lop3_s hbM] at hm
        rcases Int.lt_or_le z e with hlt | hge
        · obtain ⟨op, v, hw, hs, hy⟩ := hS z hz.1 hlt
          obtain ⟨c1, c2, c3⟩ := hs.cut
          have hs0 := hs
          obtain ⟨s1, s2, s3, s4, -⟩ := hs0
          have eV : V (t + 1) = Vx (t + 1) := hR.2.2.2.1 _ t1.2.1 t1.2.2
          have eV1 : V t = Vx t := hR.2.2.2.1 _ t1.1.1 t1.1.2
          have eL : V 70 = Vx 70 := hR.2.2.2.1 _ (by decide) (by decide)
          have eW : W 11 = Vm 11 := hR.2.2.2.2 _ (by decide)
          have eF : W 18 = Vm 18 := hR.2.2.2.2 _ (by decide)
          have ez : (220 * (tx : Int) + z).toNat = 220 * tx + z.toNat := by omega
          have mw := mwd (op := op) (v := v) ⟨s1, s2⟩ ⟨s3, s4⟩
          rw [if_neg (by omega), if_neg (by omega), if_neg (by omega)] at hx
          obtain ⟨-, hx⟩ := hx
          rw [if_neg (by rw [eV1]; omega)] at hx
          obtain ⟨-, hx⟩ := hx
          rw [if_neg (fun hh => hh hR.2.1), eV, c1] at hx
          obtain ⟨-, hx⟩ := hx
          rw [if_neg (by omega), ez, eW, hw, mw.1, mw.2] at hm
          obtain ⟨-, -, hm⟩ := hm
          rcases hy with ⟨o, y1, y2, y3⟩ | ⟨o, yv, y1, y2, y3⟩ | ⟨o1, o2, y1, y2, y3⟩ | ⟨o1, o2, y1, y2⟩ | ⟨o, y1, y2⟩ | ⟨o, y1, y2, y3, y4, y5⟩
          · subst o
            rw [if_neg (by decide), c2 (by decide)] at hx
            rw [if_pos rfl] at hm
            obtain ⟨Y, hp, -, hx⟩ := hx
            have hd := hR.dpush (by rw [hh, hgt_p y1]; omega) hp
            refine ih m (i + 1) (z + 1) (h + 1) Y _ ⟨by omega, by omega, by omega, by omega⟩ hd (by rw [hh, hgt_p y1, hgt_p (by omega), y3]) (fun hq => by omega) hx ?_
            rw [show 220 * (tx : Int) + (z + 1) = 220 * (tx : Int) + z + 1 by omega]
            exact hm
          · subst o
            have hfb := fc_b v.toNat
            have hx0 := (c3 rfl).2
            rw [if_pos (by decide), if_neg (by decide), hx0, if_neg (by omega), if_neg (by omega)] at hx
            rw [if_neg (by decide), if_neg (by decide)] at hm
            obtain ⟨Y, hp, -, hx⟩ := hx
            rw [Int.toNat_natCast, eL, hF v.toNat (by clear s4 mw hw; omega)] at hp
            have hd := hR.dpush (by rw [hh, hgt_p y1]; omega) hp
            rw [eF] at hm
            refine ih m (i + 1) (z + 1) (h + 1) Y _ ⟨by omega, by omega, by omega, by omega⟩ hd (by rw [hh, hgt_p y1, hgt_p (by omega), y3]) (fun hq => by omega) hx ?_
            rw [show 220 * (tx : Int) + (z + 1) = 220 * (tx : Int) + z + 1 by omega]
            exact hm
          · have eh : h = τ z := by rw [hh, hgt_p (by omega)]
            rw [if_pos (by omega), if_pos (by omega), if_pos (by omega), if_neg (by omega), if_pos (by omega)] at hx
            obtain ⟨y, Y, hp, -, hx⟩ := hx
            obtain ⟨p1, q1⟩ := hR.dpop (by omega) hp
            obtain ⟨x, Y2, hp2, -, hx⟩ := hx
            obtain ⟨p2, q2⟩ := q1.dpop (by omega) hp2
            obtain ⟨r, Y3, hp3, -, hx⟩ := hx
            obtain ⟨Y4, hp4, -, hx⟩ := hx
            rw [show h - 1 - 1 = h - 2 by omega] at p2 q2
            rcases q_sReckon hp3 (by omega) with ⟨k1, k2, k3⟩ | ⟨k1, k2, k3⟩
            · subst k3
              have e4 := q_push hp4 (by rw [up2_n _ _ (Or.inr (by decide)), q2.1]; omega)
              have h31 : Y4 69 3 = 1 := by rw [e4, up2_n _ _ (Or.inr (by decide)), up2_n _ _ (Or.inl (by decide)), up2_s]
              have h70 : Y4 70 = Vx 70 := by rw [e4, up2_c _ _ (by decide), up2_c _ _ (by decide), up2_c _ _ (by decide)]; exact q2.2.2.2.1 70 (by decide) (by decide)
              have h0 : a = 0 ∧ U = Y4 := by
                cases n with
                | zero => exact False.elim hx
                | succ n2 =>
                  rw [lop3_s hbX] at hx
                  have h32 : ¬ Y4 69 3 = 0 := by rw [h31]; decide
                  by_cases g1 : 200 ≤ i + 1
                  · rw [if_pos g1] at hx
                    obtain ⟨-, hx⟩ := hx
                    rw [if_neg h32] at hx
                    simp only [rtn, Prod.mk.injEq] at hx
                    exact hx
                  · rw [if_neg g1, if_neg (by omega)] at hx
                    by_cases g3 : e ≤ z + 1
                    · rw [if_pos g3] at hx
                      obtain ⟨-, hx⟩ := hx
                      rw [if_neg h32] at hx
                      simp only [rtn, Prod.mk.injEq] at hx
                      exact hx
                    · rw [if_neg g3] at hx
                      obtain ⟨-, hx⟩ := hx
                      by_cases g4 : Y4 t 1 ≤ z + 1
                      · rw [if_pos g4] at hx
                        obtain ⟨-, hx⟩ := hx
                        rw [if_neg h32] at hx
                        simp only [rtn, Prod.mk.injEq] at hx
                        exact hx
                      · rw [if_neg g4] at hx
                        obtain ⟨-, hx⟩ := hx
                        rw [if_pos h32] at hx
                        obtain ⟨-, hx⟩ := hx
                        rw [if_neg h32] at hx
                        simp only [rtn, Prod.mk.injEq] at hx
                        exact hx
              have hb0 : b = 0 ∧ X = W := by
                rw [if_neg (by omega), if_pos (by omega), if_pos (by omega), if_neg (by omega), if_pos (by omega)] at hm
                by_cases o5 : op = 5
                · rw [if_pos o5, if_neg (fun hq => hq (by omega))] at hm
                  simp only [rtn, Prod.mk.injEq] at hm
                  exact hm
                · rw [if_neg o5, if_neg (fun hq => hq (by omega)), if_neg (fun hq => hq (by omega))] at hm
                  simp only [rtn, Prod.mk.injEq] at hm
                  exact hm
              exact ⟨by omega, fun _ => Or.inl h0.1, by rw [h0.2]; exact h70, fun j hj => by rw [hb0.2]; exact hR.2.2.2.2 j hj⟩
            · subst k3
              have hd := q2.dpush (by omega) hp4
              rw [show h - 2 + 1 = h - 1 by omega] at hd
              have hm2 : lop3 m bM (220 * (tx : Int) + z + 1) (h - 1) (up2 W 17 (h - 2).toNat r) (b, X) := by
                rw [if_neg (by omega), if_pos (by omega), if_pos (by omega), if_neg (by omega), if_pos (by omega)] at hm
                rw [p1] at k1 k2
                rw [p2] at k2
                by_cases o5 : op = 5
                · rw [if_pos o5, if_pos (fun hq => k1 ⟨Or.inl o5, hq⟩)] at hm
                  obtain ⟨rr, hr, hm⟩ := hm
                  rw [k2, ← q_mReckon hr]
                  exact hm
                · rw [if_neg o5] at hm
                  by_cases o6 : op = 6
                  · rw [if_neg (fun hq => hq o6), if_pos (fun hq => k1 ⟨Or.inr o6, hq⟩)] at hm
                    obtain ⟨rr, hr, hm⟩ := hm
                    rw [k2, ← q_mReckon hr]
                    exact hm
                  · rw [if_pos o6] at hm
                    obtain ⟨rr, hr, hm⟩ := hm
                    rw [k2, ← q_mReckon hr]
                    exact hm
              refine ih m (i + 1) (z + 1) (h - 1) Y4 _ ⟨by omega, by omega, by omega, by omega⟩ hd (by rw [eh, hgt_p (by omega), y3]) (fun hq => by omega) hx ?_
              rw [show 220 * (tx : Int) + (z + 1) = 220 * (tx : Int) + z + 1 by omega]
              exact hm2
          · have eh : h = 2 := by rw [hh, hgt_p (by omega), y1]
            rw [if_pos (by omega), if_pos (by omega), if_pos (by omega), if_neg (by omega), if_pos (by omega)] at hx
            obtain ⟨y, Y, hp, -, hx⟩ := hx
            obtain ⟨p1, q1⟩ := hR.dpop (by omega) hp
            obtain ⟨x, Y2, hp2, -, hx⟩ := hx
            obtain ⟨p2, q2⟩ := q1.dpop (by omega) hp2
            obtain ⟨r, Y3, hp3, -, hx⟩ := hx
            obtain ⟨Y4, hp4, -, hx⟩ := hx
            rw [show h - 1 - 1 = h - 2 by omega] at p2 q2
            rcases q_sReckon hp3 (by omega) with ⟨k1, k2, k3⟩ | ⟨k1, k2, k3⟩
            · omega
            · subst k3
              have hd := q2.dpush (by omega) hp4
              rw [show h - 2 + 1 = h - 1 by omega] at hd
              have hm2 : lop3 m bM (220 * (tx : Int) + z + 1) (h - 1) (up2 W 17 (h - 2).toNat r) (b, X) := by
                rw [if_neg (by omega), if_pos (by omega), if_pos (by omega), if_neg (by omega), if_pos (by omega), if_neg (by omega), if_pos (by omega)] at hm
                obtain ⟨rr, hr, hm⟩ := hm
                rw [p1, p2] at k2
                rw [k2, ← q_mReckon hr]
                exact hm
              refine ih m (i + 1) (z + 1) (h - 1) Y4 _ ⟨by omega, by omega, by omega, by omega⟩ hd (by rw [eh, hgt_m y2]; rfl) (fun hq => ?_) hx ?_
              · rw [eh, show ((2 : Int) - 2).toNat = 0 by decide, up2_s, k2]
                exact rkn_b ⟨o1, o2⟩
              · rw [show 220 * (tx : Int) + (z + 1) = 220 * (tx : Int) + z + 1 by omega]
                exact hm2
          · subst o
            have eh : h = 1 := by rw [hh, hgt_m y1]
            subst eh
            rw [if_pos (by decide), if_pos (by decide), if_neg (by decide)] at hx
            rw [if_neg (by decide), if_pos (by decide), if_neg (by decide)] at hm
            obtain ⟨y, Y, hp, -, hx⟩ := hx
            obtain ⟨p1, q1⟩ := hR.dpop (by omega) hp
            obtain ⟨Y2, hp2, -, hx⟩ := hx
            have hd := q1.dpush (by omega) hp2
            rw [p1] at hd
            refine ih m (i + 1) (z + 1) 1 Y2 _ ⟨by omega, by omega, by omega, by omega⟩ hd (by rw [hgt_m y2]) (fun hq => ?_) hx ?_
            · rw [show ((1 : Int) - 1).toNat = 0 by decide, up2_s]
              rcases hb y1 with k | k
              · rw [k]; right; decide
              · rw [k]; left; decide
            · rw [show 220 * (tx : Int) + (z + 1) = 220 * (tx : Int) + z + 1 by omega]
              exact hm
          · have eh : h = 1 := by rw [hh, hgt_m y1]
            subst eh
            have e0 : ((1 : Int) - 1).toNat = 0 := by decide
            have ev : iShr (Vx (t + 1) z.toNat) 4 = v := c2 (by omega)
            rw [ev] at hx
            have jump : ∀ Y2 : Nat → Nat → Int, RI Vx Vm Y2 W 1 → lop3 n bX (i + 1) v Y2 (a, U) → lop3 m bM (220 * (tx : Int) + v) 1 W (b, X) → a = b ∧ (c = -1 → a = 0 ∨ a = 1) ∧ U 70 = Vx 70 ∧ ∀ i : Nat, i ≠ 17 → X i = Vm i := fun Y2 hR2 hx2 hm2 => ih m (i + 1) v 1 Y2 W ⟨by clear s4 mw hw; omega, by clear s4 mw hw; omega, by clear s4 mw hw; omega, by clear s4 mw hw; omega⟩ hR2 (by rw [hgt_m y5]) (fun _ => hb y1) hx2 hm2
            have next : ∀ Y2 : Nat → Nat → Int, RI Vx Vm Y2 W 0 → lop3 n bX (i + 1) (z + 1) Y2 (a, U) → lop3 m bM (220 * (tx : Int) + z + 1) (1 - 1) W (b, X) → a = b ∧ (c = -1 → a = 0 ∨ a = 1) ∧ U 70 = Vx 70 ∧ ∀ i : Nat, i ≠ 17 → X i = Vm i := fun Y2 hR2 hx2 hm2 => ih m (i + 1) (z + 1) 0 Y2 W ⟨by omega, by omega, by omega, by omega⟩ hR2 (by rw [y2]; rfl) (fun hq => by omega) hx2 (by rw [show 220 * (tx : Int) + (z + 1) = 220 * (tx : Int) + z + 1 by omega]; exact hm2)
            have hbb := hb y1
            rcases o with o | o
            · subst o
              rw [if_pos (by decide), if_pos (by decide), if_pos (by decide), if_pos rfl] at hx
              rw [if_neg (by decide), if_pos (by decide), if_pos (by decide), if_pos rfl, e0] at hm
              obtain ⟨y, Y, hp, -, hx⟩ := hx
              obtain ⟨p1, q1⟩ := hR.dpop (by omega) hp
              rw [e0] at p1
              by_cases hy0 : y = 0
              · rw [if_neg (fun hq => hq hy0), if_neg (fun hq => hq trivial)] at hx
                rw [if_neg (fun hq => hq (by omega))] at hm
                obtain ⟨Y2, hp2, -, hx⟩ := hx
                have hd := q1.dpush (by omega) hp2
                rw [show ((1 : Int) - 1).toNat = 0 by decide, up2_same p1.symm] at hd
                exact jump Y2 hd hx hm
              · rw [if_pos hy0, if_pos (by decide)] at hx
                rw [if_pos (by omega)] at hm
                exact next Y q1 hx hm
            · subst o
              rw [if_pos (by decide), if_pos (by decide), if_pos (by decide), if_neg (by decide), if_neg (by decide)] at hx
              rw [if_neg (by decide), if_pos (by decide), if_pos (by decide), if_neg (by decide), if_neg (by decide), e0] at hm
              obtain ⟨y, Y, hp, -, hx⟩ := hx
              obtain ⟨p1, q1⟩ := hR.dpop (by omega) hp
              rw [e0] at p1
              by_cases hy0 : y = 0
              · rw [if_neg (fun hq => hq hy0), if_pos (by decide)] at hx
                rw [if_pos (by omega)] at hm
                exact next Y q1 hx hm
              · rw [if_pos hy0, if_neg (by decide)] at hx
                rw [if_neg (by omega)] at hm
                obtain ⟨Y2, hp2, -, hx⟩ := hx
                have hd := q1.dpush (by omega) hp2
                rw [show ((1 : Int) - 1).toNat = 0 by decide, up2_same p1.symm] at hd
                exact jump Y2 hd hx hm
        · have ez : z = e := by omega
          subst ez
          have hfin : ∃ (Y : Nat → Nat → Int), f_s_pop V Jx Rx (a, Y) ∧ U = Y := by
            have fin : ∀ K : Int × (Nat → Nat → Int) → Prop, (K (a, U) → ∃ (Y : Nat → Nat → Int), f_s_pop V Jx Rx (a, Y) ∧ U = Y) → K (a, U) → ∃ (Y : Nat → Nat → Int), f_s_pop V Jx Rx (a, Y) ∧ U = Y := fun K h k => h k
            by_cases h200 : 200 ≤ i
            · rw [if_pos h200] at hx
              obtain ⟨-, hx⟩ := hx
              rw [if_pos hR.2.1] at hx
              obtain ⟨y, Y, hp, -, hx⟩ := hx
              simp only [rtn, Prod.mk.injEq] at hx
              exact ⟨Y, by rw [hx.1]; exact hp, hx.2⟩
            · rw [if_neg h200, if_neg (by omega), if_pos (by omega)] at hx
              obtain ⟨-, hx⟩ := hx
              rw [if_pos hR.2.1] at hx
              obtain ⟨y, Y, hp, -, hx⟩ := hx
              simp only [rtn, Prod.mk.injEq] at hx
              exact ⟨Y, by rw [hx.1]; exact hp, hx.2⟩
          obtain ⟨Y, hp, hU⟩ := hfin
          rw [if_pos (by omega)] at hm
          simp only [rtn, Prod.mk.injEq] at hm
          have eh : h = 1 := by
            rw [hh, hτ1]
            rcases hc with rfl | rfl
            · exact hgt_p (by decide)
            · exact hgt_m rfl
          subst eh
          obtain ⟨p1, q1⟩ := hR.dpop (by omega) hp
          rw [show ((1 : Int) - 1).toNat = 0 by decide] at p1
          refine ⟨p1.trans hm.1.symm, fun hcc => ?_, ?_, fun i hi => ?_⟩
          · rw [p1]; exact hb (by rw [hτ1, hcc])
          · rw [hU]; exact q1.2.2.2.1 70 (by decide) (by decide)
          · rw [hm.2]; exact hR.2.2.2.2 i hi
  refine key 202 _ 0 f 0 _ Vm ⟨by omega, by omega, by omega, by omega⟩ ⟨?_, ?_, fun j hj => by omega, fun i i1 i2 => ?_, fun i _ => rfl⟩ (by rw [hτ0]; rfl) (fun hq => by omega) hx hm
  · rw [up2_n _ _ (Or.inr (by decide)), up2_s]
  · rw [up2_s]
  · rw [up2_c _ _ i1, up2_c _ _ i1]
end
section
-- texts asked: the same on both sides (own work)
theorem FB.row {P : Nat → Nat → Prop} {V W : Nat → Nat → Int} (h : FB P V W) {i : Nat} (hi : ∀ k, ¬ P i k) : W i = V i := funext fun k => h i k (hi k)
theorem FBm.row {m : Nat} {V W : Nat → Nat → Int} (h : FBm m V W) {i : Nat} (hi : ∀ k, m.testBit (mkey i k) = false) : W i = V i := funext fun k => h i k (hi k)
theorem q_ask {t tx : Nat} {Vx Jx Vm Jm U X : Nat → Nat → Int} {Rx Rm : Nat → Nat → Nat} {lt mo a b : Int} (ht : isTx t) (htx : tx < 5) (hT : RTz t tx Vx Vm) (hF : RF Vx Vm) (hmo : 0 ≤ mo)
    (hx : f_s_ask t lt mo Vx Jx Rx (a, U)) (hm : f_m_byText tx lt mo Vm Jm Rm (b, X)) : a = b ∧ U 70 = Vx 70 ∧ ∀ i : Nat, i ≠ 17 → X i = Vm i := by
  obtain ⟨hT1, hT2, hT3, hT4⟩ := hT
  have t1 : (t ≠ 69 ∧ t ≠ 71) ∧ (t + 1 ≠ 69 ∧ t + 1 ≠ 71) ∧ (t + 2 ≠ 69 ∧ t + 2 ≠ 71) ∧ (t + 3 ≠ 69 ∧ t + 3 ≠ 71) ∧ t + 4 ≠ 69 ∧ t + 4 ≠ 71 := by rcases ht with rfl | rfl | rfl | rfl | rfl | rfl <;> decide
  simp only [f_s_ask, rdb] at hx
  simp only [f_m_byText, rdb] at hm
  obtain ⟨bX, hbX, hx⟩ := lop2_g hx
  obtain ⟨bM, hbM, hm⟩ := lop2_g hm
  have key : ∀ (n m j : Nat) (V W : Nat → Nat → Int), (∀ i : Nat, i ≠ 69 → i ≠ 71 → V i = Vx i) → (∀ i : Nat, i ≠ 17 → W i = Vm i) → lop2 n bX (j : Int) V (a, U) → lop2 m bM (14 * (tx : Int) + j) W (b, X) → a = b ∧ U 70 = Vx 70 ∧ ∀ i : Nat, i ≠ 17 → X i = Vm i := by
    intro n
    induction n with
    | zero => intro m j V W _ _ hx; exact False.elim hx
    | succ n ih =>
      intro m j V W hV hW hx hm
      cases m with
      | zero => exact False.elim hm
      | succ m =>
        rw [lop2_s hbX] at hx
        rw [lop2_s hbM] at hm
        have e0 : V t = Vx t := hV t t1.1.1 t1.1.2
        have e1 : V (t + 1) = Vx (t + 1) := hV _ t1.2.1.1 t1.2.1.2
        have e2 : V (t + 2) = Vx (t + 2) := hV _ t1.2.2.1.1 t1.2.2.1.2
        have e3 : V (t + 3) = Vx (t + 3) := hV _ t1.2.2.2.1.1 t1.2.2.2.1.2
        have e4 : V (t + 4) = Vx (t + 4) := hV _ t1.2.2.2.2.1 t1.2.2.2.2.2
        have eL : V 70 = Vx 70 := hV 70 (by decide) (by decide)
        have ej : (14 * (tx : Int) + (j : Int)).toNat = 14 * tx + j := by omega
        have ej1 : ((j : Int) + 1).toNat = j + 1 := by omega
        have hRF : RF V W := fun i hi => by rw [eL, hW 18 (by decide)]; exact hF i hi
        obtain ⟨-, hx⟩ := hx
        obtain ⟨-, hm⟩ := hm
        rw [e0] at hx
        rw [Int.toNat_natCast, hW 12 (by decide), ← hT1] at hm
        by_cases hj : Vx t 5 ≤ (j : Int)
        · rw [if_pos hj] at hx
          rw [if_pos (by omega)] at hm
          simp only [rtn, Prod.mk.injEq] at hx hm
          exact ⟨hx.1.trans hm.1.symm, by rw [hx.2]; exact eL, fun i hi => by rw [hm.2]; exact hW i hi⟩
        · rw [if_neg hj] at hx
          rw [if_neg (by omega)] at hm
          obtain ⟨r1, r2, r3, r4, r5, r6, r7, r8, r9, r10⟩ := hT4 j (by omega)
          obtain ⟨-, hx⟩ := hx
          rw [e2, Int.toNat_natCast] at hx
          rw [ej, hW 13 (by decide), ← r1] at hm
          by_cases hl : Vx (t + 2) j = lt
          · rw [if_neg (fun hh => hh hl)] at hx hm
            rw [e3, e4, ej1] at hx
            rw [hW 15 (by decide), hW 16 (by decide), r3, r4] at hm
            obtain ⟨y, Y, hy, hYB, hx⟩ := hx
            obtain ⟨w, Z, hw, hZB, hm⟩ := hm
            obtain ⟨k1, k2, k3, k4⟩ := q_run ht ⟨by omega, by omega, by rw [e0]; omega, by rw [e0]; omega⟩ htx (by rw [e1, hW 11 (by decide)]; exact r10) (Or.inr rfl) hRF hy hw
            have hV2 : ∀ i : Nat, i ≠ 69 → i ≠ 71 → Y i = Vx i := fun i i1 i2 => by
              by_cases h70 : i = 70
              · rw [h70, k3]; exact eL
              · exact (hYB.row (i := i) (fun k hk => by omega)).trans (hV i i1 i2)
            have hW2 : ∀ i : Nat, i ≠ 17 → Z i = Vm i := fun i hi => (k4 i hi).trans (hW i hi)
            have k2 := k2 rfl
            by_cases hy0 : y = 0
            · rw [if_pos hy0] at hx
              rw [if_neg (by omega)] at hm
              refine ih m (j + 1) Y Z hV2 hW2 ?_ ?_
              · rw [Int.natCast_add]; exact hx
              · rw [Int.natCast_add, ← Int.add_assoc]; exact hm
            · rw [if_neg hy0] at hx
              rw [if_pos (by omega)] at hm
              have f0 : Y t = Vx t := hV2 t t1.1.1 t1.1.2
              have f1 : Y (t + 1) = Vx (t + 1) := hV2 _ t1.2.1.1 t1.2.1.2
              have fL : Y 70 = Vx 70 := hV2 70 (by decide) (by decide)
              have hRF2 : RF Y Z := fun i hi => by rw [fL, hW2 18 (by decide)]; exact hF i hi
              rw [hV2 (t + 3) t1.2.2.2.1.1 t1.2.2.2.1.2, hV2 (t + 4) t1.2.2.2.2.1 t1.2.2.2.2.2] at hx
              rw [hW2 14 (by decide), hW2 15 (by decide), r2, r3] at hm
              obtain ⟨y2, Y2, hy2, hYB2, hx⟩ := hx
              obtain ⟨w2, Z2, hw2, hZB2, hm⟩ := hm
              obtain ⟨l1, l2, l3, l4⟩ := q_run ht ⟨by omega, by omega, by rw [f0]; omega, by rw [f0]; omega⟩ htx (by rw [f1, hW2 11 (by decide)]; exact r9) (Or.inl rfl) hRF2 hy2 hw2
              obtain ⟨-, -, hx⟩ := hx
              simp only [rtn, Prod.mk.injEq] at hx
              have hb : b = max 0 (min mo w2) ∧ X = Z2 := by
                by_cases g1 : 0 ≤ w2
                · rw [if_pos g1] at hm
                  by_cases g2 : w2 ≤ mo
                  · rw [if_pos g2] at hm
                    simp only [rtn, Prod.mk.injEq] at hm
                    exact ⟨by omega, hm.2⟩
                  · rw [if_neg g2] at hm
                    simp only [rtn, Prod.mk.injEq] at hm
                    exact ⟨by omega, hm.2⟩
                · rw [if_neg g1] at hm
                  simp only [rtn, Prod.mk.injEq] at hm
                  exact ⟨by omega, hm.2⟩
              refine ⟨by rw [hx.1, hb.1, l1], ?_, fun i hi => ?_⟩
              · rw [hx.2, l3]; exact fL
              · rw [hb.2]; exact (l4 i hi).trans (hW2 i hi)
          · rw [if_pos hl] at hx hm
            refine ih m (j + 1) V W hV hW ?_ ?_
            · rw [Int.natCast_add]; exact hx
            · rw [Int.natCast_add, ← Int.add_assoc]; exact hm
  refine key 16 72 0 Vx Vm (fun _ _ _ => rfl) (fun _ _ => rfl) hx ?_
  rw [show 14 * (tx : Int) + ((0 : Nat) : Int) = 14 * (tx : Int) by omega]
  exact hm
end
section
-- what is felt: letters and facts (own work)
theorem q_putA {c v : Int} {k : Nat} {V J U : Nat → Nat → Int} {R : Nat → Nat → Nat} (h : f_s_putA c v V J R U) (hc : 97 ≤ c ∧ c ≤ 122) (hk : (c - 97).toNat = k) : U = up2 V 70 k v := by
  simp only [f_s_putA, rdb] at h
  rw [if_neg (by omega), if_neg (by omega), hk] at h
  exact h
def agX (c : Nat → Int) (d : Int) : Int := if c 6 = 0 then 99 else if c 7 = -1 then 99 else wr (d - c 7)
/-- letters that are laid, one behind another -/
def ly (f : Nat → Int) (k : Nat) (v : Int) : Nat → Int := up1 f k v
theorem up2_row {V : Nat → Nat → Int} {i k : Nat} {v : Int} : up2 V i k v i = up1 (V i) k v := by simp [up2]
def dyX (f : Nat → Int) (d n : Int) : Nat → Int := up1 (up1 (up1 f 3 d) 22 (iRem d 7)) 13 n
def ofX (f : Nat → Int) (l : Int) (c k : Nat → Int) (d : Int) : Nat → Int := up1 (up1 (up1 (up1 (up1 (up1 (up1 f 11 l) 14 (c 1)) 5 (c 2)) 18 (k 6)) 24 (c 4)) 25 (c 5)) 0 (agX c d)
def byX (f : Nat → Int) (p t q : Int) : Nat → Int := up1 (up1 (up1 f 15 p) 19 t) 16 q
theorem q_onDay {d n : Int} {V J U : Nat → Nat → Int} {R : Nat → Nat → Nat} (h : f_s_onDay d n V J R U) : U 70 = dyX (V 70) d n ∧ ∀ i : Nat, i ≠ 70 → U i = V i := by
  simp only [f_s_onDay, rdb, fct, calUX, rtn] at h
  obtain ⟨V1, h1, -, -, V2, h2, -, V3, h3, -, h4⟩ := h
  have e1 := q_putA h1 (by decide) (k := 3) (by decide)
  have e2 := q_putA h2 (by decide) (k := 22) (by decide)
  have e3 := q_putA h3 (by decide) (k := 13) (by decide)
  subst e1 e2 e3 h4
  exact ⟨by rw [up2_row, up2_row, up2_row]; rfl, fun i hi => by rw [up2_c _ _ hi, up2_c _ _ hi, up2_c _ _ hi]⟩
theorem q_by {p t q : Int} {V J U : Nat → Nat → Int} {R : Nat → Nat → Nat} (h : f_s_by p t q V J R U) : U 70 = byX (V 70) p t q ∧ ∀ i : Nat, i ≠ 70 → U i = V i := by
  simp only [f_s_by, rdb, fct, calUX, rtn] at h
  obtain ⟨V1, h1, -, V2, h2, -, V3, h3, -, h4⟩ := h
  have e1 := q_putA h1 (by decide) (k := 15) (by decide)
  have e2 := q_putA h2 (by decide) (k := 19) (by decide)
  have e3 := q_putA h3 (by decide) (k := 16) (by decide)
  subst e1 e2 e3 h4
  exact ⟨by rw [up2_row, up2_row, up2_row]; rfl, fun i hi => by rw [up2_c _ _ hi, up2_c _ _ hi, up2_c _ _ hi]⟩
theorem q_byNobody {V J U : Nat → Nat → Int} {R : Nat → Nat → Nat} (h : f_s_byNobody V J R U) : U 70 = byX (V 70) 0 0 0 ∧ ∀ i : Nat, i ≠ 70 → U i = V i := by
  simp only [f_s_byNobody, calUX, rtn] at h
  obtain ⟨V1, h1, -, rfl⟩ := h
  exact q_by h1
theorem q_of {c : Nat} {l d : Int} {V J U : Nat → Nat → Int} {R : Nat → Nat → Nat} (h : f_s_of c l d V J R U) (hc : c ≠ 70 ∧ c + 1 ≠ 70) : U 70 = ofX (V 70) l (V c) (V (c + 1)) d ∧ ∀ i : Nat, i ≠ 70 → U i = V i := by
  simp only [f_s_of, rdb, jnk] at h
  obtain ⟨V1, h1, -, V3, h3, -, V5, h5, -, V7, h7, -, V9, h9, -, V11, h11, -, -, h⟩ := h
  have e1 := q_putA h1 (by decide) (k := 11) (by decide)
  have e3 := q_putA h3 (by decide) (k := 14) (by decide)
  have e5 := q_putA h5 (by decide) (k := 5) (by decide)
  have e7 := q_putA h7 (by decide) (k := 18) (by decide)
  have e9 := q_putA h9 (by decide) (k := 24) (by decide)
  have e11 := q_putA h11 (by decide) (k := 25) (by decide)
  have hl : ∃ Y : Nat → Nat → Int, f_s_putA 97 (agX (V11 c) d) V11 J R Y ∧ U = Y := by
    unfold agX
    by_cases g1 : V11 c 6 = 0
    · rw [if_pos g1] at h ⊢
      obtain ⟨Y, hy, -, hr⟩ := h
      exact ⟨Y, hy, hr⟩
    · rw [if_neg g1] at h ⊢
      by_cases g2 : V11 c 7 = -1
      · rw [if_pos g2] at h ⊢
        obtain ⟨Y, hy, -, hr⟩ := h
        exact ⟨Y, hy, hr⟩
      · rw [if_neg g2] at h ⊢
        obtain ⟨Y, hy, -, hr⟩ := h
        exact ⟨Y, hy, hr⟩
  obtain ⟨Y, hy, rfl⟩ := hl
  have e12 := q_putA hy (by decide) (k := 0) (by decide)
  have r1 : V1 c = V c := by rw [e1, up2_c _ _ hc.1]
  have r3 : V3 c = V c := by rw [e3, up2_c _ _ hc.1, r1]
  have r5 : V5 (c + 1) = V (c + 1) := by rw [e5, up2_c _ _ hc.2, e3, up2_c _ _ hc.2, e1, up2_c _ _ hc.2]
  have r5c : V5 c = V c := by rw [e5, up2_c _ _ hc.1, r3]
  have r7 : V7 c = V c := by rw [e7, up2_c _ _ hc.1, r5c]
  have r9 : V9 c = V c := by rw [e9, up2_c _ _ hc.1, r7]
  have r11 : V11 c = V c := by rw [e11, up2_c _ _ hc.1, r9]
  rw [r1] at e3
  rw [r3] at e5
  rw [r5] at e7
  rw [r7] at e9
  rw [r9] at e11
  rw [r11] at e12
  subst e12 e11 e9 e7 e5 e3 e1
  exact ⟨by rw [up2_row, up2_row, up2_row, up2_row, up2_row, up2_row, up2_row]; rfl, fun i hi => by rw [up2_c _ _ hi, up2_c _ _ hi, up2_c _ _ hi, up2_c _ _ hi, up2_c _ _ hi, up2_c _ _ hi, up2_c _ _ hi]⟩
theorem q_feels {V J U : Nat → Nat → Int} {R : Nat → Nat → Nat} (h : f_m_feels V J R U) : (∀ i : Nat, i ≠ 18 → U i = V i) ∧ U 18 0 = V 1 79 ∧ U 18 1 = iRem (V 1 79) 7 ∧ U 18 10 = cnt (V 1 78) ∧ ∀ k : Nat, 2 ≤ k → k < 13 → k ≠ 10 → U 18 k = 0 := by
  unfold f_m_feels at h
  obtain ⟨b, hb, h⟩ := lop2_g h
  have key : ∀ (n z : Nat) (W : Nat → Nat → Int), (∀ i : Nat, i ≠ 18 → W i = V i) → (∀ k : Nat, k < z → k < 13 → W 18 k = 0) → lop2 n b (z : Int) W U → (∀ i : Nat, i ≠ 18 → U i = V i) ∧ U 18 0 = V 1 79 ∧ U 18 1 = iRem (V 1 79) 7 ∧ U 18 10 = cnt (V 1 78) ∧ ∀ k : Nat, 2 ≤ k → k < 13 → k ≠ 10 → U 18 k = 0 := by
    intro n
    induction n with
    | zero => intro z W _ _ h; exact False.elim h
    | succ n ih =>
      intro z W hW hz h
      rw [lop2_s hb] at h
      by_cases g : (13 : Int) ≤ z
      · rw [if_pos g] at h
        simp only [rdb, fct, calR, rtn] at h
        obtain ⟨-, y, hy, h⟩ := h
        have hy := q_bits hy
        rw [up2_n _ _ (Or.inl (by decide)), up2_n _ _ (Or.inl (by decide)), hW 1 (by decide)] at hy
        rw [hW 1 (by decide)] at h
        subst h
        refine ⟨fun i hi => ?_, ?_, ?_, ?_, fun k k1 k2 k3 => ?_⟩
        · rw [up2_c _ _ hi, up2_c _ _ hi, up2_c _ _ hi]; exact hW i hi
        · rw [up2_n _ _ (Or.inr (by decide)), up2_n _ _ (Or.inr (by decide)), up2_s]
        · rw [up2_n _ _ (Or.inr (by decide)), up2_s]
        · rw [up2_s]; exact hy
        · rw [up2_n _ _ (Or.inr k3), up2_n _ _ (Or.inr (by omega)), up2_n _ _ (Or.inr (by omega))]
          exact hz k (by omega) k2
      · rw [if_neg g] at h
        simp only [rdb] at h
        refine ih (z + 1) _ (fun i hi => ?_) (fun k k1 k2 => ?_) (by rw [Int.natCast_add]; exact h)
        · rw [up2_c _ _ hi]; exact hW i hi
        · rw [Int.toNat_natCast]
          by_cases e : k = z
          · subst e; rw [up2_s]
          · rw [up2_n _ _ (Or.inr e)]; exact hz k (by omega) k2
  exact key 15 0 V (fun _ _ => rfl) (fun k hk => by omega) h
def agM (v d : Int) : Int := if 0 ≤ v then wr (d - v) else 99
theorem q_feelsPlant {l : Int} {V J U : Nat → Nat → Int} {R : Nat → Nat → Nat} (h : f_m_feelsPlant l V J R U) (hl : 0 ≤ l ∧ l < 4) : (∀ i : Nat, i ≠ 18 → U i = V i) ∧ (U 18 0 = V 1 79 ∧ U 18 1 = iRem (V 1 79) 7 ∧ U 18 10 = cnt (V 1 78)) ∧ (U 18 2 = l ∧ U 18 3 = V 1 l.toNat ∧ U 18 4 = V 1 (4 + l.toNat) ∧ U 18 5 = V 1 (30 + 7 * l.toNat) ∧ U 18 6 = V 1 (12 + l.toNat) ∧ U 18 7 = V 1 (16 + l.toNat) ∧ U 18 11 = agM (V 1 (20 + l.toNat)) (V 1 79)) ∧ (U 18 8 = 0 ∧ U 18 9 = 0 ∧ U 18 12 = 0) := by
  simp only [f_m_feelsPlant, rdb] at h
  obtain ⟨V1, h1, -, -, -, -, -, h⟩ := h
  obtain ⟨f1, f2, f3, f4, f5⟩ := q_feels h1
  have e0 : V1 1 = V 1 := f1 1 (by decide)
  have c1 : (1 : Nat) ≠ 18 := by decide
  simp only [up2_c _ _ c1, e0] at h
  rw [show (l + 4).toNat = 4 + l.toNat by omega, show (7 * l + 30).toNat = 30 + 7 * l.toNat by omega, show (l + 12).toNat = 12 + l.toNat by omega, show (l + 16).toNat = 16 + l.toNat by omega, show (l + 20).toNat = 20 + l.toNat by omega] at h
  have hU : U = up2 (up2 (up2 (up2 (up2 (up2 (up2 V1 18 2 l) 18 3 (V 1 l.toNat)) 18 4 (V 1 (4 + l.toNat))) 18 5 (V 1 (30 + 7 * l.toNat))) 18 6 (V 1 (12 + l.toNat))) 18 7 (V 1 (16 + l.toNat))) 18 11 (agM (V 1 (20 + l.toNat)) (V 1 79)) := by
    unfold agM
    by_cases g : 0 ≤ V 1 (20 + l.toNat)
    · rw [if_pos g] at h ⊢; exact h
    · rw [if_neg g] at h ⊢; exact h
  subst hU
  refine ⟨fun i hi => ?_, ⟨?_, ?_, ?_⟩, ⟨?_, ?_, ?_, ?_, ?_, ?_, ?_⟩, ?_, ?_, ?_⟩
  · rw [up2_c _ _ hi, up2_c _ _ hi, up2_c _ _ hi, up2_c _ _ hi, up2_c _ _ hi, up2_c _ _ hi, up2_c _ _ hi]; exact f1 i hi
  · rw [up2_n _ _ (Or.inr (by decide)), up2_n _ _ (Or.inr (by decide)), up2_n _ _ (Or.inr (by decide)), up2_n _ _ (Or.inr (by decide)), up2_n _ _ (Or.inr (by decide)), up2_n _ _ (Or.inr (by decide)), up2_n _ _ (Or.inr (by decide))]; exact f2
  · rw [up2_n _ _ (Or.inr (by decide)), up2_n _ _ (Or.inr (by decide)), up2_n _ _ (Or.inr (by decide)), up2_n _ _ (Or.inr (by decide)), up2_n _ _ (Or.inr (by decide)), up2_n _ _ (Or.inr (by decide)), up2_n _ _ (Or.inr (by decide))]; exact f3
  · rw [up2_n _ _ (Or.inr (by decide)), up2_n _ _ (Or.inr (by decide)), up2_n _ _ (Or.inr (by decide)), up2_n _ _ (Or.inr (by decide)), up2_n _ _ (Or.inr (by decide)), up2_n _ _ (Or.inr (by decide)), up2_n _ _ (Or.inr (by decide))]; exact f4
  · rw [up2_n _ _ (Or.inr (by decide)), up2_n _ _ (Or.inr (by decide)), up2_n _ _ (Or.inr (by decide)), up2_n _ _ (Or.inr (by decide)), up2_n _ _ (Or.inr (by decide)), up2_n _ _ (Or.inr (by decide)), up2_s]
  · rw [up2_n _ _ (Or.inr (by decide)), up2_n _ _ (Or.inr (by decide)), up2_n _ _ (Or.inr (by decide)), up2_n _ _ (Or.inr (by decide)), up2_n _ _ (Or.inr (by decide)), up2_s]
  · rw [up2_n _ _ (Or.inr (by decide)), up2_n _ _ (Or.inr (by decide)), up2_n _ _ (Or.inr (by decide)), up2_n _ _ (Or.inr (by decide)), up2_s]
  · rw [up2_n _ _ (Or.inr (by decide)), up2_n _ _ (Or.inr (by decide)), up2_n _ _ (Or.inr (by decide)), up2_s]
  · rw [up2_n _ _ (Or.inr (by decide)), up2_n _ _ (Or.inr (by decide)), up2_s]
  · rw [up2_n _ _ (Or.inr (by decide)), up2_s]
  · rw [up2_s]
  all_goals (rw [up2_n _ _ (Or.inr (by decide)), up2_n _ _ (Or.inr (by decide)), up2_n _ _ (Or.inr (by decide)), up2_n _ _ (Or.inr (by decide)), up2_n _ _ (Or.inr (by decide)), up2_n _ _ (Or.inr (by decide)), up2_n _ _ (Or.inr (by decide))]; exact f5 _ (by decide) (by decide) (by decide))
end
section
-- the landing on both sides; what a person gives (own work)
def RPl (c k N : Nat → Int) (l : Nat) : Prop :=
  c 0 = bt (N 76) l ∧ c 1 = N l ∧ c 2 = N (4 + l) ∧ c 3 = N (8 + l) ∧ c 4 = N (12 + l) ∧ c 5 = N (16 + l) ∧ (∀ j : Nat, j < 7 → k j = N (24 + 7 * l + j)) ∧
  (c 0 = 1 → (c 6 = 0 ∧ N (20 + l) = -2) ∨ (c 6 = 1 ∧ c 7 = -1 ∧ N (20 + l) = -3) ∨ (c 6 = 1 ∧ 0 ≤ c 7 ∧ N (20 + l) = c 7)) ∧
  (bt (N 77) l = 1 ↔ dedX c) ∧ (0 ≤ c 1 ∧ c 1 ≤ 24) ∧ (0 ≤ c 2 ∧ c 2 ≤ 24) ∧ (0 ≤ c 3 ∧ c 3 ≤ 9) ∧ (0 ≤ c 4 ∧ c 4 ≤ 9) ∧ (0 ≤ c 5 ∧ c 5 ≤ 9)
def RPe (c N : Nat → Int) (p : Nat) : Prop := c 0 = bt (N 78) p ∧ c 1 = N (52 + p) ∧ c 2 = N (60 + p) ∧ c 3 = N (68 + p)
def RLz (b : Nat) (V : Nat → Nat → Int) (N : Nat → Int) : Prop :=
  (∀ l : Nat, l < 4 → RPl (V (b + 3 + 2 * l)) (V (b + 3 + 2 * l + 1)) N l) ∧ (∀ p : Nat, p < 8 → RPe (V (b + 11 + p)) N p) ∧ V b 2 = cnt (N 78) ∧ V b 3 = N 79 ∧ V b 4 = N 80 ∧
  (0 ≤ N 76 ∧ N 76 < 16) ∧ (0 ≤ N 77 ∧ N 77 < 16) ∧ (0 ≤ N 78 ∧ N 78 < 256) ∧ 0 ≤ N 79 ∧ (0 ≤ N 80 ∧ N 80 ≤ 65535)
theorem RPl.cg {c k N c2 k2 N2 : Nat → Int} {l : Nat} (h : RPl c k N l) (hc : c2 = c) (hk : k2 = k) (hN : ∀ j : Nat, (j = l ∨ j = 4 + l ∨ j = 8 + l ∨ j = 12 + l ∨ j = 16 + l ∨ j = 20 + l ∨ (24 + 7 * l ≤ j ∧ j < 31 + 7 * l)) → N2 j = N j) (h76 : bt (N2 76) l = bt (N 76) l) (h77 : bt (N2 77) l = bt (N 77) l) : RPl c2 k2 N2 l := by
  subst hc hk
  unfold RPl at h ⊢
  rw [h76, h77, hN l (by omega), hN (4 + l) (by omega), hN (8 + l) (by omega), hN (12 + l) (by omega), hN (16 + l) (by omega), hN (20 + l) (by omega)]
  refine ⟨h.1, h.2.1, h.2.2.1, h.2.2.2.1, h.2.2.2.2.1, h.2.2.2.2.2.1, fun j hj => ?_, h.2.2.2.2.2.2.2⟩
  rw [hN _ (by omega)]
  exact h.2.2.2.2.2.2.1 j hj
theorem RPe.cg {c N c2 N2 : Nat → Int} {p : Nat} (h : RPe c N p) (hc : c2 = c) (hN : ∀ j : Nat, (j = 52 + p ∨ j = 60 + p ∨ j = 68 + p) → N2 j = N j) (h78 : N2 78 = N 78) : RPe c2 N2 p := by
  subst hc
  unfold RPe at h ⊢
  rw [h78, hN (52 + p) (by omega), hN (60 + p) (by omega), hN (68 + p) (by omega)]
  exact h
/-- texts on both sides -/
def RTx (Rx : Nat → Nat → Nat) (Vx Vm : Nat → Nat → Int) : Prop := (isTx (Rx 60 0) ∧ RTz (Rx 60 0) 0 Vx Vm) ∧ ∀ k : Nat, k < 4 → isTx (Rx 66 k) ∧ RTz (Rx 66 k) (k + 1) Vx Vm
theorem isTx_b {t : Nat} (h : isTx t) : 61 ≤ t ∧ t + 4 ≤ 97 ∧ (t + 4 ≤ 65 ∨ 73 ≤ t) := by rcases h with rfl | rfl | rfl | rfl | rfl | rfl <;> decide
theorem RTx.cg {Rx : Nat → Nat → Nat} {Vx Vm Ux Um : Nat → Nat → Int} (h : RTx Rx Vx Vm) (hx : ∀ i : Nat, 61 ≤ i → i ≤ 97 → (i ≤ 65 ∨ 73 ≤ i) → Ux i = Vx i) (hm : ∀ i : Nat, 11 ≤ i → i ≤ 16 → Um i = Vm i) : RTx Rx Ux Um := by
  have go : ∀ t tx : Nat, isTx t → RTz t tx Vx Vm → RTz t tx Ux Um := fun t tx ht hr => by
    have hb := isTx_b ht
    exact hr.cg (fun i k h1 h2 => by rw [hx i (by omega) (by omega) (by omega)]) (fun i k h1 h2 => by rw [hm i h1 h2])
  exact ⟨⟨h.1.1, go _ _ h.1.1 h.1.2⟩, fun k hk => ⟨(h.2 k hk).1, go _ _ (h.2 k hk).1 (h.2 k hk).2⟩⟩
theorem RPl.ag {c k N : Nat → Int} {l : Nat} (h : RPl c k N l) (ht : c 0 = 1) (d : Int) : agX c d = agM (N (20 + l)) d := by
  unfold agX agM
  rcases h.2.2.2.2.2.2.2.1 ht with ⟨h1, h2⟩ | ⟨h1, h2, h3⟩ | ⟨h1, h2, h3⟩
  · rw [if_pos h1, h2, if_neg (by decide)]
  · rw [if_neg (by rw [h1]; decide), if_pos h2, h3, if_neg (by decide)]
  · rw [if_neg (by rw [h1]; decide), if_neg (by omega), h3, if_pos h2]
/-- what is felt is the same -/
theorem felt {b l : Nat} {V N : Nat → Nat → Int} {f F : Nat → Int} {d n p t q : Int} {c k : Nat → Int} (hf : f = byX (ofX (dyX (V 70) d n) l c k d) p t q) (hP : RPl c k (N 1) l) (ht : c 0 = 1) (hd : d = N 1 79) (hn : n = cnt (N 1 78))
    (h0 : F 0 = N 1 79 ∧ F 1 = iRem (N 1 79) 7 ∧ F 10 = cnt (N 1 78)) (h1 : F 2 = l ∧ F 3 = N 1 l ∧ F 4 = N 1 (4 + l) ∧ F 5 = N 1 (30 + 7 * l) ∧ F 6 = N 1 (12 + l) ∧ F 7 = N 1 (16 + l) ∧ F 11 = agM (N 1 (20 + l)) (N 1 79)) (h2 : F 8 = p ∧ F 9 = t ∧ F 12 = q) : ∀ i : Nat, i < 13 → f (fc i) = F i := by
  have hag := hP.ag ht d
  obtain ⟨p0, p1, p2, p3, p4, p5, p6, -⟩ := hP
  have e6 := p6 6 (by decide)
  rw [show 24 + 7 * l + 6 = 30 + 7 * l by omega] at e6
  intro i hi
  subst hf
  rcases (show i = 0 ∨ i = 1 ∨ i = 2 ∨ i = 3 ∨ i = 4 ∨ i = 5 ∨ i = 6 ∨ i = 7 ∨ i = 8 ∨ i = 9 ∨ i = 10 ∨ i = 11 ∨ i = 12 by omega) with rfl | rfl | rfl | rfl | rfl | rfl | rfl | rfl | rfl | rfl | rfl | rfl | rfl
  · show d = F 0; rw [h0.1]; exact hd
  · show iRem d 7 = F 1; rw [h0.2.1, hd]
  · show (l : Int) = F 2; exact h1.1.symm
  · show c 1 = F 3; rw [h1.2.1]; exact p1
  · show c 2 = F 4; rw [h1.2.2.1]; exact p2
  · show k 6 = F 5; rw [h1.2.2.2.1]; exact e6
  · show c 4 = F 6; rw [h1.2.2.2.2.1]; exact p4
  · show c 5 = F 7; rw [h1.2.2.2.2.2.1]; exact p5
  · show p = F 8; exact h2.1.symm
  · show t = F 9; exact h2.2.1.symm
  · show n = F 10; rw [h0.2.2]; exact hn
  · show agX c d = F 11; rw [h1.2.2.2.2.2.2, hag, hd]
  · show q = F 12; exact h2.2.2.symm
theorem q_sWet {c : Nat} {x a : Int} {V J U : Nat → Nat → Int} {R : Nat → Nat → Nat} (h : f_s_wetBy c x V J R (a, U)) (hw : 0 ≤ V c 2 ∧ V c 2 ≤ 24) (hp : 0 ≤ V c 1 ∧ V c 1 ≤ 24) (hx : 0 ≤ x ∧ x ≤ 999) : a = V c 2 + x - min (V c 2 + x) (V c 1) ∧ U = up2 V c 2 (min (V c 2 + x) (V c 1)) := by
  simp only [f_s_wetBy, rdb, rtn, Prod.mk.injEq] at h
  rw [wr_id (z := V c 2 + x) ⟨by omega, by omega⟩] at h
  rw [wr_id ⟨by omega, by omega⟩] at h
  exact h
theorem isLa_b {b : Nat} (h : isLa b) : 1 ≤ b ∧ b ≤ 39 := by rcases h with rfl | rfl | rfl <;> decide
theorem d_gift {b : Nat} {p l a z : Int} {Vx Jx Vm Jm Ux Um : Nat → Nat → Int} {Rx Rm : Nat → Nat → Nat} (hb : isLa b) (hp : 0 ≤ p ∧ p < 8) (hl : 0 ≤ l ∧ l < 4) (hR : RLz b Vx (Vm 1)) (hT : RTx Rx Vx Vm) (ht : Vx (b + 3 + 2 * l.toNat) 0 = 1)
    (hx : f_s_gift b p l Vx Jx Rx (a, Ux)) (hm : f_m_cupsOf p l Vm Jm Rm (z, Um)) : a = z ∧ (0 ≤ a ∧ a ≤ 999) ∧ (∀ i : Nat, i ≠ 69 → i ≠ 70 → i ≠ 71 → Ux i = Vx i) ∧ ∀ i : Nat, i ≠ 17 → i ≠ 18 → Um i = Vm i := by
  have bb := isLa_b hb
  simp only [f_s_gift, rdb, Nat.one_mul] at hx
  obtain ⟨V4, h4, -, V7, h7, -, V10, h10, -, -, a2, V13, h13, B13, ar, hx⟩ := hx
  simp only [rtn, Prod.mk.injEq] at hx
  obtain ⟨rfl, rfl⟩ := hx
  obtain ⟨e4, r4⟩ := q_onDay h4
  obtain ⟨e7, r7⟩ := q_of h7 (by omega)
  obtain ⟨e10, r10⟩ := q_by h10
  simp only [f_m_cupsOf, rdb] at hm
  obtain ⟨V1, h1, -, mr, z2, V8, h8, -, -, hm⟩ := hm
  simp only [rtn, Prod.mk.injEq] at hm
  obtain ⟨rfl, rfl⟩ := hm
  obtain ⟨m1, m2, m3, m4⟩ := q_feelsPlant h1 hl
  have c1 : (1 : Nat) ≠ 18 := by decide
  simp only [up2_c _ _ c1, m1 1 c1] at h8 mr
  rw [show (p + 52).toNat = 52 + p.toNat by omega, show (p + 68).toNat = 68 + p.toNat by omega, show (p + 60).toNat = 60 + p.toNat by omega] at h8
  rw [show (p + 60).toNat = 60 + p.toNat by omega] at mr
  obtain ⟨hPl, hPe, hn, hd, -⟩ := hR
  have hpl := hPl l.toNat (by omega)
  have hpe := hPe p.toNat (by omega)
  have k4 : V4 b = Vx b := r4 b (by omega)
  have k4c : V4 (b + 3 + 2 * l.toNat) = Vx (b + 3 + 2 * l.toNat) := r4 _ (by omega)
  have k4k : V4 (b + 3 + 2 * l.toNat + 1) = Vx (b + 3 + 2 * l.toNat + 1) := r4 _ (by omega)
  have k7 : V7 (b + 11 + p.toNat) = Vx (b + 11 + p.toNat) := by rw [r7 _ (by omega), r4 _ (by omega)]
  have k10 : V10 (b + 11 + p.toNat) = Vx (b + 11 + p.toNat) := by rw [r10 _ (by omega)]; exact k7
  rw [k4, k4c, k4k, e4] at e7
  rw [k7, e7] at e10
  have hrule : Vx (b + 11 + p.toNat) 2 = Vm 1 (60 + p.toNat) := hpe.2.2.1
  rw [k10, hrule] at h13
  have hxr : ∀ i : Nat, i ≠ 70 → V10 i = Vx i := fun i hi => by rw [r10 i hi, r7 i hi, r4 i hi]
  have hmr : ∀ i : Nat, i ≠ 18 → up2 (up2 (up2 V1 18 8 p) 18 9 (Vm 1 (52 + p.toNat))) 18 12 (Vm 1 (68 + p.toNat)) i = Vm i := fun i hi => by rw [up2_c _ _ hi, up2_c _ _ hi, up2_c _ _ hi]; exact m1 i hi
  have hT2 := hT.cg (Ux := V10) (Um := up2 (up2 (up2 V1 18 8 p) 18 9 (Vm 1 (52 + p.toNat))) 18 12 (Vm 1 (68 + p.toNat))) (fun i h1 h2 h3 => hxr i (by omega)) (fun i h1 h2 => hmr i (by omega))
  have hrr := hT2.2 (Vm 1 (60 + p.toNat)).toNat (by omega)
  rw [show Vm 1 (60 + p.toNat) + 1 = (((Vm 1 (60 + p.toNat)).toNat + 1 : Nat) : Int) by omega] at h8
  have hRF : RF V10 (up2 (up2 (up2 V1 18 8 p) 18 9 (Vm 1 (52 + p.toNat))) 18 12 (Vm 1 (68 + p.toNat))) := by
    have hlc : l = ((l.toNat : Nat) : Int) := by omega
    refine felt (b := b) (l := l.toNat) (V := Vx) (N := Vm) (f := V10 70) (F := up2 (up2 (up2 V1 18 8 p) 18 9 (Vm 1 (52 + p.toNat))) 18 12 (Vm 1 (68 + p.toNat)) 18) (d := Vx b 3) (n := Vx b 2) (p := p) (t := Vx (b + 11 + p.toNat) 1) (q := Vx (b + 11 + p.toNat) 3) (c := Vx (b + 3 + 2 * l.toNat)) (k := Vx (b + 3 + 2 * l.toNat + 1)) (by rw [← hlc]; exact e10) hpl ht hd hn ?_ ?_ ?_
    · rw [up2_n _ _ (Or.inr (by decide)), up2_n _ _ (Or.inr (by decide)), up2_n _ _ (Or.inr (by decide)), up2_n _ _ (Or.inr (by decide)), up2_n _ _ (Or.inr (by decide)), up2_n _ _ (Or.inr (by decide)), up2_n _ _ (Or.inr (by decide)), up2_n _ _ (Or.inr (by decide)), up2_n _ _ (Or.inr (by decide))]
      exact m2
    · have g : ∀ k : Nat, k ≠ 8 → k ≠ 9 → k ≠ 12 → up2 (up2 (up2 V1 18 8 p) 18 9 (Vm 1 (52 + p.toNat))) 18 12 (Vm 1 (68 + p.toNat)) 18 k = V1 18 k := fun k k1 k2 k3 => by rw [up2_n _ _ (Or.inr k3), up2_n _ _ (Or.inr k2), up2_n _ _ (Or.inr k1)]
      rw [g 2 (by decide) (by decide) (by decide), g 3 (by decide) (by decide) (by decide), g 4 (by decide) (by decide) (by decide), g 5 (by decide) (by decide) (by decide), g 6 (by decide) (by decide) (by decide), g 7 (by decide) (by decide) (by decide), g 11 (by decide) (by decide) (by decide), ← hlc]
      exact m3
    · refine ⟨?_, ?_, ?_⟩
      · rw [up2_n _ _ (Or.inr (by decide)), up2_n _ _ (Or.inr (by decide)), up2_s]
      · rw [up2_n _ _ (Or.inr (by decide)), up2_s]; exact hpe.2.1.symm
      · rw [up2_s]; exact hpe.2.2.2.symm
  obtain ⟨g1, g2, g3⟩ := q_ask hrr.1 (by omega) hrr.2 hRF (by decide) h13 h8
  refine ⟨g1, ar, fun i i1 i2 i3 => ?_, fun i i1 i2 => ?_⟩
  · exact (B13.row (i := i) (fun k hk => by omega)).trans (hxr i i2)
  · exact (g3 i i1).trans (hmr i i2)
theorem d_giftN {b p l : Nat} {a z : Int} {Vx Jx Vm Jm Ux Um : Nat → Nat → Int} {Rx Rm : Nat → Nat → Nat} (hb : isLa b) (hp : p < 8) (hl : l < 4) (hR : RLz b Vx (Vm 1)) (hT : RTx Rx Vx Vm) (ht : Vx (b + 3 + 2 * l) 0 = 1)
    (hx : f_s_gift b p l Vx Jx Rx (a, Ux)) (hm : f_m_cupsOf p l Vm Jm Rm (z, Um)) : a = z ∧ (0 ≤ a ∧ a ≤ 999) ∧ (∀ i : Nat, i ≠ 69 → i ≠ 70 → i ≠ 71 → Ux i = Vx i) ∧ ∀ i : Nat, i ≠ 17 → i ≠ 18 → Um i = Vm i :=
  d_gift hb ⟨by omega, by omega⟩ ⟨by omega, by omega⟩ hR hT (by rw [Int.toNat_natCast]; exact ht) hx hm
def RD (b : Nat) (Vx Vm : Nat → Nat → Int) : Prop := RLz b Vx (Vm 1) ∧ Vx b 5 = Vm 0 27 ∧ Vx b 6 = Vm 0 28 ∧ Vx b 7 = Vm 0 29
theorem up1_at {f : Nat → Int} {k : Nat} {v : Int} : up1 f k v k = v := by simp [up1]
theorem up1_of {f : Nat → Int} {k j : Nat} {v : Int} (h : j ≠ k) : up1 f k v j = f j := by simp [up1, h]
theorem d_giveL {b p l : Nat} {Vx Jx Vm Jm Ux Um : Nat → Nat → Int} {Rx Rm : Nat → Nat → Nat} (hb : isLa b) (hp : p < 8) (hl : l < 4) (hD : RLz b Vx (Vm 1)) (hT : RTx Rx Vx Vm) (hpt : bt (Vm 1 78) p = 1) (h76 : bt (Vm 1 76) l = 1) (h77 : ¬ bt (Vm 1 77) l = 1)
    (hx : f_s_giveTo b p l Vx Jx Rx Ux) (hm : f_m_waters p l Vm Jm Rm Um) : RLz b Ux (Um 1) ∧ ((Vx b 5 = Vm 0 27 → Ux b 5 = Um 0 27) ∧ (Vx b 6 = Vm 0 28 → Ux b 6 = Um 0 28) ∧ (Vx b 7 = Vm 0 29 → Ux b 7 = Um 0 29)) ∧ RTx Rx Ux Um ∧ Um 1 78 = Vm 1 78 ∧ Um 1 79 = Vm 1 79 := by
  have bb := isLa_b hb
  have hR := hD
  have hR0 := hR
  obtain ⟨hPl, hPe, hn, hd, hx4, hs76, hs77, hs78, h79, h80⟩ := hR
  have hpl := hPl l hl
  have hpe := hPe p hp
  obtain ⟨p0, p1, p2, p3, p4, p5, p6, p7, p8, p9, p10, p11, p12, p13⟩ := hpl
  have ht : Vx (b + 3 + 2 * l) 0 = 1 := p0.trans h76
  -- the first side
  simp only [f_s_giveTo, rdb, Nat.one_mul, Int.toNat_natCast] at hx
  obtain ⟨z1, h1, -, hx⟩ := hx
  have q1 := q_sPerson h1
  rw [Int.toNat_natCast, hpe.1, hpt] at q1
  rw [if_neg (by unfold Sq at q1; omega)] at hx
  obtain ⟨z4, h4, -, hx⟩ := hx
  have q4 := q_sAlive h4
  rw [Int.toNat_natCast] at q4
  have nd : ¬ dedX (Vx (b + 3 + 2 * l)) := fun h => h77 (p8.mpr h)
  have z4n : ¬ z4 = 0 := by
    rcases q4 with ⟨q, -⟩ | ⟨-, q⟩
    · omega
    · exact absurd ⟨⟨by omega, by omega, by omega⟩, nd⟩ q
  rw [if_pos z4n] at hx
  obtain ⟨g, V8, h8, -, -, hx⟩ := hx
  -- the reference
  unfold f_m_waters at hm
  rw [show ((l : Int) + 4).toNat = 4 + l by omega, show ((p : Int) + 68).toNat = 68 + p by omega, show ((l : Int) + 20).toNat = 20 + l by omega, Int.toNat_natCast, Int.toNat_natCast] at hm
  obtain ⟨g2, W1, hg2, -, -, hm⟩ := hm
  obtain ⟨eg, gr, x8, m1⟩ := d_giftN hb hp hl hR0 hT ht h8 hg2
  subst eg
  rw [m1 1 (by decide) (by decide)] at hm
  obtain ⟨y2, rfl, -, hm⟩ := rdb_g hm
  obtain ⟨y3, rfl, -, hm⟩ := rdb_g hm
  obtain ⟨w, hw, hm⟩ := hm
  obtain ⟨W6, ew6, hm⟩ := rdb_g hm
  obtain ⟨y7, ey7, hm⟩ := rdb_g hm
  obtain ⟨y8, ey8, hm⟩ := rdb_g hm
  obtain ⟨W9, ew9, hm⟩ := rdb_g hm
  obtain ⟨y10, ey10, hm⟩ := rdb_g hm
  obtain ⟨y11, ey11, hm⟩ := rdb_g hm
  obtain ⟨W12, ew12, hm⟩ := rdb_g hm
  obtain ⟨y13, ey13, hm⟩ := rdb_g hm
  obtain ⟨y14, ey14, hm⟩ := rdb_g hm
  obtain ⟨y15, ey15, hm⟩ := rdb_g hm
  obtain ⟨W16, ew16, hm⟩ := rdb_g hm
  obtain ⟨y17, ey17, hm⟩ := rdb_g hm
  obtain ⟨y18, ey18, hm⟩ := rdb_g hm
  obtain ⟨W19, ew19, hm⟩ := rdb_g hm
  have hw := q_min hw
  -- the first side's store
  obtain ⟨zw, V17, h17, -, hx⟩ := hx
  have e8c : V8 (b + 3 + 2 * l) = Vx (b + 3 + 2 * l) := x8 _ (by omega) (by omega) (by omega)
  have e8e : V8 (b + 11 + p) = Vx (b + 11 + p) := x8 _ (by omega) (by omega) (by omega)
  have e8b : V8 b = Vx b := x8 _ (by omega) (by omega) (by omega)
  have e15 : up2 (up2 V8 (b + 11 + p) 3 (wr (V8 (b + 11 + p) 3 + g))) b 5 (wr (up2 V8 (b + 11 + p) 3 (wr (V8 (b + 11 + p) 3 + g)) b 5 + g)) (b + 3 + 2 * l) = Vx (b + 3 + 2 * l) := by rw [up2_c _ _ (by omega), up2_c _ _ (by omega)]; exact e8c
  obtain ⟨k1, k2⟩ := q_sWet h17 (by rw [e15]; exact p10) (by rw [e15]; exact p9) gr
  rw [e15] at k1 k2
  have ew : w = min (Vx (b + 3 + 2 * l) 2 + g) (Vx (b + 3 + 2 * l) 1) := by omega
  rw [← ew] at k1 k2
  have wb : 0 ≤ w ∧ w ≤ 24 := by omega
  generalize hV19 : up2 V17 b 6 _ = V19 at hx
  have xc : V19 (b + 3 + 2 * l) = up1 (Vx (b + 3 + 2 * l)) 2 w := by
    rw [← hV19, up2_c _ _ (by omega), k2, up2_row, e15]
  have xe : V19 (b + 11 + p) = up1 (Vx (b + 11 + p)) 3 (wr (Vx (b + 11 + p) 3 + g)) := by
    rw [← hV19, up2_c _ _ (by omega), k2, up2_c _ _ (by omega), up2_c _ _ (by omega), up2_row, e8e]
  have xb : V19 b = up1 (up1 (Vx b) 5 (wr (Vx b 5 + g))) 6 (wr (Vx b 6 + zw)) := by
    rw [← hV19, up2_row, k2, up2_c _ _ (by omega), up2_row, up2_c _ _ (by omega), e8b, up1_of (by decide)]
  have xo : ∀ i : Nat, i ≠ 69 → i ≠ 70 → i ≠ 71 → i ≠ b + 3 + 2 * l → i ≠ b + 11 + p → i ≠ b → V19 i = Vx i := fun i i1 i2 i3 i4 i5 i6 => by
    rw [← hV19, up2_c _ _ i6, k2, up2_c _ _ i4, up2_c _ _ i6, up2_c _ _ i5]; exact x8 i i1 i2 i3
  -- the reference's store
  have w6 : W6 1 = up1 (Vm 1) (4 + l) w := by rw [← ew6, up2_row, m1 1 (by decide) (by decide)]
  have w6o : ∀ i : Nat, i ≠ 1 → i ≠ 17 → i ≠ 18 → W6 i = Vm i := fun i i1 i2 i3 => by rw [← ew6, up2_c _ _ i1]; exact m1 i i2 i3
  rw [w6, up1_of (by omega)] at ey7
  have w9 : W9 1 = up1 (up1 (Vm 1) (4 + l) w) (68 + p) y8 := by rw [← ew9, up2_row, w6]
  have w9o : ∀ i : Nat, i ≠ 1 → i ≠ 17 → i ≠ 18 → W9 i = Vm i := fun i i1 i2 i3 => by rw [← ew9, up2_c _ _ i1]; exact w6o i i1 i2 i3
  rw [w9o 0 (by decide) (by decide) (by decide)] at ey10
  have w12 : W12 0 = up1 (Vm 0) 27 y11 := by rw [← ew12, up2_row, w9o 0 (by decide) (by decide) (by decide)]
  rw [w12, up1_of (by decide)] at ey13
  have w16 : W16 0 = up1 (up1 (Vm 0) 27 y11) 28 y15 := by rw [← ew16, up2_row, w12]
  have n1 : W19 1 = up1 (up1 (Vm 1) (4 + l) w) (68 + p) (wr (Vm 1 (68 + p) + g)) := by
    rw [← ew19, up2_c _ _ (by decide), ← ew16, up2_c _ _ (by decide), ← ew12, up2_c _ _ (by decide), w9, ← ey8, ← ey7]
  have n0 : W19 0 27 = wr (Vm 0 27 + g) ∧ W19 0 28 = wr (wr (Vm 0 28 + Vm 1 (4 + l) + g) - w) ∧ W19 0 29 = Vm 0 29 := by
    rw [← ew19, up2_c _ _ (by decide), w16, ← ey15, ← ey14, ← ey13, ← ey11, ← ey10]
    exact ⟨rfl, rfl, rfl⟩
  have no : ∀ i : Nat, 2 ≤ i → i ≠ 17 → i ≠ 18 → i ≠ 19 → W19 i = Vm i := fun i i1 i2 i3 i4 => by
    rw [← ew19, up2_c _ _ i4, ← ew16, up2_c _ _ (by omega), ← ew12, up2_c _ _ (by omega)]; exact w9o i (by omega) i2 i3
  have ov : Vx b 6 = Vm 0 28 → wr (Vx b 6 + zw) = wr (wr (Vm 0 28 + Vm 1 (4 + l) + g) - w) := fun d6 => by
    rw [show wr (Vm 0 28 + Vm 1 (4 + l) + g) - w = wr (Vm 0 28 + Vm 1 (4 + l) + g) + (-w) by omega, wr_add, k1, d6, p2]
    congr 1
    omega
  -- with the card or without it
  have fin : ∀ (cX : Nat → Int) (N : Nat → Int), (cX = up1 (Vx (b + 3 + 2 * l)) 2 w ∧ N = up1 (up1 (Vm 1) (4 + l) w) (68 + p) (wr (Vm 1 (68 + p) + g))) ∨ (Vx (b + 3 + 2 * l) 6 = 1 ∧ cX = up1 (up1 (Vx (b + 3 + 2 * l)) 2 w) 7 (Vx b 3) ∧ N = up1 (up1 (up1 (Vm 1) (4 + l) w) (68 + p) (wr (Vm 1 (68 + p) + g))) (20 + l) (Vm 1 79)) → RPl cX (Vx (b + 3 + 2 * l + 1)) N l ∧ (∀ j : Nat, j ≠ 4 + l → j ≠ 68 + p → j ≠ 20 + l → N j = Vm 1 j) ∧ N (68 + p) = wr (Vm 1 (68 + p) + g) := by
    intro cX N h
    have hj : ∀ j : Nat, j ≠ 4 + l → j ≠ 68 + p → j ≠ 20 + l → N j = Vm 1 j := fun j j1 j2 j3 => by
      rcases h with ⟨-, h⟩ | ⟨-, -, h⟩
      · rw [h, up1_of j2, up1_of j1]
      · rw [h, up1_of j3, up1_of j2, up1_of j1]
    have h4 : N (4 + l) = w := by
      rcases h with ⟨-, h⟩ | ⟨-, -, h⟩
      · rw [h, up1_of (by omega), up1_at]
      · rw [h, up1_of (by omega), up1_of (by omega), up1_at]
    have hcx : ∀ k : Nat, k ≠ 2 → k ≠ 7 → cX k = Vx (b + 3 + 2 * l) k := fun k k1 k2 => by
      rcases h with ⟨h, -⟩ | ⟨-, h, -⟩
      · rw [h, up1_of k1]
      · rw [h, up1_of k2, up1_of k1]
    have h2 : cX 2 = w := by
      rcases h with ⟨h, -⟩ | ⟨-, h, -⟩
      · rw [h]; rfl
      · rw [h]; rfl
    refine ⟨?_, hj, ?_⟩
    · unfold RPl dedX
      rw [hcx 0 (by decide) (by decide), hcx 1 (by decide) (by decide), hcx 3 (by decide) (by decide), hcx 4 (by decide) (by decide), hcx 5 (by decide) (by decide), hcx 6 (by decide) (by decide), h2, hj 76 (by omega) (by omega) (by omega), hj 77 (by omega) (by omega) (by omega), hj l (by omega) (by omega) (by omega), h4, hj (8 + l) (by omega) (by omega) (by omega), hj (12 + l) (by omega) (by omega) (by omega), hj (16 + l) (by omega) (by omega) (by omega)]
      refine ⟨p0, p1, rfl, p3, p4, p5, fun j hj7 => ?_, fun hc => ?_, p8, p9, wb, p11, p12, p13⟩
      · rw [hj _ (by omega) (by omega) (by omega)]; exact p6 j hj7
      · rcases h with ⟨hc, hN⟩ | ⟨hc6, hc, hN⟩
        · rw [hN, up1_of (by omega), up1_of (by omega), hc, up1_of (by decide)]
          exact p7 ht
        · rw [hN, up1_at, hc, up1_at, hd]
          exact Or.inr (Or.inr ⟨hc6, h79, rfl⟩)
    · rcases h with ⟨-, h⟩ | ⟨-, -, h⟩
      · rw [h, up1_at]
      · rw [h, up1_of (by omega), up1_at]
  have goal : ∀ U W : Nat → Nat → Int, ((U (b + 3 + 2 * l) = up1 (Vx (b + 3 + 2 * l)) 2 w ∧ W 1 = up1 (up1 (Vm 1) (4 + l) w) (68 + p) (wr (Vm 1 (68 + p) + g))) ∨ (Vx (b + 3 + 2 * l) 6 = 1 ∧ U (b + 3 + 2 * l) = up1 (up1 (Vx (b + 3 + 2 * l)) 2 w) 7 (Vx b 3) ∧ W 1 = up1 (up1 (up1 (Vm 1) (4 + l) w) (68 + p) (wr (Vm 1 (68 + p) + g))) (20 + l) (Vm 1 79))) → (∀ i : Nat, i ≠ b + 3 + 2 * l → U i = V19 i) → (∀ i : Nat, i ≠ 1 → W i = W19 i) → RLz b U (W 1) ∧ ((Vx b 5 = Vm 0 27 → U b 5 = W 0 27) ∧ (Vx b 6 = Vm 0 28 → U b 6 = W 0 28) ∧ (Vx b 7 = Vm 0 29 → U b 7 = W 0 29)) ∧ RTx Rx U W ∧ W 1 78 = Vm 1 78 ∧ W 1 79 = Vm 1 79 := by
    intro U W h hU hW
    obtain ⟨f1, f2, f3⟩ := fin _ _ h
    have ub : U b = up1 (up1 (Vx b) 5 (wr (Vx b 5 + g))) 6 (wr (Vx b 6 + zw)) := (hU b (by omega)).trans xb
    refine ⟨⟨fun q hq => ?_, fun q hq => ?_, ?_, ?_, ?_, ?_, ?_, ?_, ?_, ?_⟩, ⟨fun d5 => ?_, fun d6 => ?_, fun d7 => ?_⟩, ?_, f2 78 (by omega) (by omega) (by omega), f2 79 (by omega) (by omega) (by omega)⟩
    · by_cases e : q = l
      · subst e
        rw [hU (b + 3 + 2 * q + 1) (by omega), xo (b + 3 + 2 * q + 1) (by omega) (by omega) (by omega) (by omega) (by omega) (by omega)]
        exact f1
      · refine (hPl q hq).cg ?_ ?_ (fun j hj => f2 j (by omega) (by omega) (by omega)) (by rw [f2 76 (by omega) (by omega) (by omega)]) (by rw [f2 77 (by omega) (by omega) (by omega)])
        · rw [hU _ (by omega), xo _ (by omega) (by omega) (by omega) (by omega) (by omega) (by omega)]
        · rw [hU _ (by omega), xo _ (by omega) (by omega) (by omega) (by omega) (by omega) (by omega)]
    · by_cases e : q = p
      · subst e
        rw [hU _ (by omega), xe]
        unfold RPe
        rw [f2 78 (by omega) (by omega) (by omega), f2 (52 + q) (by omega) (by omega) (by omega), f2 (60 + q) (by omega) (by omega) (by omega), f3, ← hpe.2.2.2]
        exact ⟨hpe.1, hpe.2.1, hpe.2.2.1, rfl⟩
      · refine (hPe q hq).cg ?_ (fun j hj => f2 j (by omega) (by omega) (by omega)) (f2 78 (by omega) (by omega) (by omega))
        rw [hU _ (by omega), xo _ (by omega) (by omega) (by omega) (by omega) (by omega) (by omega)]
    · rw [ub, f2 78 (by omega) (by omega) (by omega)]; exact hn
    · rw [ub, f2 79 (by omega) (by omega) (by omega)]; exact hd
    · rw [ub, f2 80 (by omega) (by omega) (by omega)]; exact hx4
    · rw [f2 76 (by omega) (by omega) (by omega)]; exact hs76
    · rw [f2 77 (by omega) (by omega) (by omega)]; exact hs77
    · rw [f2 78 (by omega) (by omega) (by omega)]; exact hs78
    · rw [f2 79 (by omega) (by omega) (by omega)]; exact h79
    · rw [f2 80 (by omega) (by omega) (by omega)]; exact h80
    · rw [ub, hW 0 (by decide), n0.1, ← d5]; rfl
    · rw [ub, hW 0 (by decide), n0.2.1, ← ov d6]; rfl
    · rw [ub, hW 0 (by decide), n0.2.2, ← d7]; rfl
    · refine hT.cg (fun i i1 i2 i3 => ?_) (fun i i1 i2 => ?_)
      · rw [hU _ (by omega), xo _ (by omega) (by omega) (by omega) (by omega) (by omega) (by omega)]
      · rw [hW _ (by omega), no _ (by omega) (by omega) (by omega) (by omega)]
  have x6 : V19 (b + 3 + 2 * l) 6 = Vx (b + 3 + 2 * l) 6 := by rw [xc]; rfl
  have xb3 : V19 b 3 = Vx b 3 := by rw [xb]; rfl
  have n20 : W19 1 (20 + l) = Vm 1 (20 + l) := by rw [n1, up1_of (by omega), up1_of (by omega)]
  have n79 : W19 1 79 = Vm 1 79 := by rw [n1, up1_of (by omega), up1_of (by omega)]
  rw [x6, xb3] at hx
  rw [n20, n79] at hm
  by_cases gg : g ≤ 0
  · rw [if_pos gg] at hx hm
    simp only [rtn] at hx hm
    subst hx hm
    exact goal _ _ (Or.inl ⟨xc, n1⟩) (fun _ _ => rfl) (fun _ _ => rfl)
  · rw [if_neg gg] at hx hm
    obtain ⟨-, hx⟩ := hx
    simp only [rdb] at hm
    rcases p7 ht with ⟨c6, c20⟩ | ⟨c6, c7, c20⟩ | ⟨c6, c7, c20⟩
    · rw [if_pos c6] at hx
      rw [if_pos c20] at hm
      simp only [rtn] at hx hm
      subst hx hm
      exact goal _ _ (Or.inl ⟨xc, n1⟩) (fun _ _ => rfl) (fun _ _ => rfl)
    all_goals
      rw [if_neg (by omega)] at hx hm
      simp only [rtn] at hx hm
      subst hx hm
      exact goal _ _ (Or.inr ⟨c6, by rw [up2_row, xc], by rw [up2_row, n1]⟩) (fun i hi => up2_c _ _ hi) (fun i hi => up2_c _ _ hi)
theorem d_give {b p l : Nat} {Vx Jx Vm Jm Ux Um : Nat → Nat → Int} {Rx Rm : Nat → Nat → Nat} (hb : isLa b) (hp : p < 8) (hl : l < 4) (hD : RD b Vx Vm) (hT : RTx Rx Vx Vm) (hpt : bt (Vm 1 78) p = 1) (h76 : bt (Vm 1 76) l = 1) (h77 : ¬ bt (Vm 1 77) l = 1)
    (hx : f_s_giveTo b p l Vx Jx Rx Ux) (hm : f_m_waters p l Vm Jm Rm Um) : RD b Ux Um ∧ RTx Rx Ux Um ∧ Um 1 78 = Vm 1 78 ∧ Um 1 79 = Vm 1 79 := by
  obtain ⟨r1, ⟨c5, c6, c7⟩, r2, r3⟩ := d_giveL hb hp hl hD.1 hT hpt h76 h77 hx hm
  exact ⟨⟨r1, c5 hD.2.1, c6 hD.2.2.1, c7 hD.2.2.2⟩, r2, r3⟩
end
section
-- the end of a day for one plant (own work)
theorem jnk_d {α ρ : Type} {K : α} {f : α → ρ → Prop} {r : ρ} (h : jnk K f r) : f K r := h
theorem jnk_if {α ρ : Type} {c : Prop} {dc : Decidable c} {K : α → ρ → Prop} {x y : α} {r : ρ} (h : jnk K (fun j => @ite (ρ → Prop) c dc (j x) (j y)) r) : K (@ite α c dc x y) r := by
  have h : (@ite (ρ → Prop) c dc (K x) (K y)) r := h
  by_cases hc : c
  · rw [if_pos hc] at h ⊢; exact h
  · rw [if_neg hc] at h ⊢; exact h
theorem q_sDry {c : Nat} {x : Int} {V J U : Nat → Nat → Int} {R : Nat → Nat → Nat} (h : f_s_dryBy c x V J R U) (hw : 0 ≤ V c 2 ∧ V c 2 ≤ 24) (hx : 0 ≤ x ∧ x ≤ 1998) (h4 : 0 ≤ V c 4 ∧ V c 4 ≤ 9) (h5 : 0 ≤ V c 5 ∧ V c 5 ≤ 9) :
    ∃ w d r : Int, w = max 0 (V c 2 - x) ∧ d = (if w = 0 then V c 4 + 1 else 0) ∧ r = (if w = V c 1 then V c 5 + 1 else 0) ∧ (U c 2 = w ∧ U c 4 = d ∧ U c 5 = r ∧ ∀ k : Nat, k ≠ 2 → k ≠ 4 → k ≠ 5 → U c k = V c k) ∧ (U (c + 1) 0 = w ∧ ∀ j : Nat, j < 6 → U (c + 1) (j + 1) = V (c + 1) j) ∧ ∀ i : Nat, i ≠ c → i ≠ c + 1 → U i = V i := by
  unfold f_s_dryBy at h
  obtain ⟨z1, e1, h⟩ := rdb_g h
  obtain ⟨z2, e2, h⟩ := rdb_g h
  obtain ⟨w, e3, -, h⟩ := rdb_g h
  obtain ⟨V4, e4, h⟩ := rdb_g h
  rw [wr_id ⟨by omega, by omega⟩] at e2
  have ew : w = max 0 (V c 2 - x) := by omega
  have v41 : V4 c 1 = V c 1 := by rw [← e4, up2_n _ _ (Or.inr (by decide))]
  have v44 : V4 c 4 = V c 4 := by rw [← e4, up2_n _ _ (Or.inr (by decide))]
  have v45 : V4 c 5 = V c 5 := by rw [← e4, up2_n _ _ (Or.inr (by decide))]
  have h : ∃ d : Int, d = (if w = 0 then V c 4 + 1 else 0) ∧ (fun (z7 : Int) => rdb (up2 V4 c 4 z7) fun V9 => rdb (V9 c 1) fun z10 => jnk (fun (z13 : Int) => rdb (up2 V9 c 5 z13) fun V15 => rdb (cpV V15 (c + 1) 0 (c + 1) 1 6) fun V16 => rdb (V16 c 2) fun z17 => rdb (up2 V16 (c + 1) 0 z17) fun V18 => rtn V18) fun jf14 => (if ¬ w = z10 then jf14 0 else rdb (V9 c 5) fun z20 => rdb (wr (z20 + 1)) fun z21 => jf14 z21)) d U := by
    have h := jnk_d h
    by_cases g : w = 0
    · rw [if_neg (fun hh => hh g)] at h
      rw [if_pos g]
      refine ⟨_, rfl, ?_⟩
      have h : _ := h
      simp only [rdb] at h ⊢
      rw [v44, wr_id ⟨by omega, by omega⟩] at h
      exact h
    · rw [if_pos g] at h
      rw [if_neg g]
      exact ⟨_, rfl, h⟩
  obtain ⟨d, ed, h⟩ := h
  obtain ⟨V9, e9, h⟩ := rdb_g h
  obtain ⟨z10, e10, h⟩ := rdb_g h
  have v91 : V9 c 1 = V c 1 := by rw [← e9, up2_n _ _ (Or.inr (by decide))]; exact v41
  have v95 : V9 c 5 = V c 5 := by rw [← e9, up2_n _ _ (Or.inr (by decide))]; exact v45
  have h : ∃ r : Int, r = (if w = V c 1 then V c 5 + 1 else 0) ∧ (fun (z13 : Int) => rdb (up2 V9 c 5 z13) fun V15 => rdb (cpV V15 (c + 1) 0 (c + 1) 1 6) fun V16 => rdb (V16 c 2) fun z17 => rdb (up2 V16 (c + 1) 0 z17) fun V18 => rtn V18) r U := by
    have h := jnk_d h
    by_cases g : w = V c 1
    · rw [if_neg (fun hh => hh (by omega))] at h
      rw [if_pos g]
      refine ⟨_, rfl, ?_⟩
      have h : _ := h
      simp only [rdb] at h ⊢
      rw [v95, wr_id ⟨by omega, by omega⟩] at h
      exact h
    · rw [if_pos (by omega)] at h
      rw [if_neg g]
      exact ⟨_, rfl, h⟩
  obtain ⟨r, er, h⟩ := h
  obtain ⟨V15, e15, h⟩ := rdb_g h
  obtain ⟨V16, e16, h⟩ := rdb_g h
  obtain ⟨z17, e17, h⟩ := rdb_g h
  obtain ⟨V18, e18, h⟩ := rdb_g h
  have hU : U = V18 := h
  have c15 : V15 c = up1 (up1 (up1 (V c) 2 w) 4 d) 5 r := by rw [← e15, up2_row, ← e9, up2_row, ← e4, up2_row]
  have k15 : V15 (c + 1) = V (c + 1) := by rw [← e15, up2_c _ _ (by omega), ← e9, up2_c _ _ (by omega), ← e4, up2_c _ _ (by omega)]
  have o15 : ∀ i : Nat, i ≠ c → V15 i = V i := fun i hi => by rw [← e15, up2_c _ _ hi, ← e9, up2_c _ _ hi, ← e4, up2_c _ _ hi]
  have c16 : V16 c = V15 c := by
    rw [← e16]
    funext k
    unfold cpV
    rw [if_neg (by omega)]
  have o16 : ∀ i : Nat, i ≠ c + 1 → V16 i = V15 i := fun i hi => by
    rw [← e16]
    funext k
    unfold cpV
    rw [if_neg (by omega)]
  have k16 : ∀ j : Nat, j < 6 → V16 (c + 1) (j + 1) = V (c + 1) j := fun j hj => by
    rw [← e16]
    unfold cpV
    rw [if_pos ⟨rfl, by omega, by omega⟩, k15, show 0 + (j + 1 - 1) = j by omega]
  have c18 : V18 c = up1 (up1 (up1 (V c) 2 w) 4 d) 5 r := by rw [← e18, up2_c _ _ (by omega), c16, c15]
  rw [c16, c15] at e17
  have e17 : w = z17 := e17
  subst hU
  refine ⟨w, d, r, ew, ed, er, ⟨?_, ?_, ?_, fun k k1 k2 k3 => ?_⟩, ⟨?_, fun j hj => ?_⟩, fun i i1 i2 => ?_⟩
  · rw [c18]; rfl
  · rw [c18]; rfl
  · rw [c18]; rfl
  · rw [c18, up1_of k3, up1_of k2, up1_of k1]
  · rw [← e18, up2_s]; exact e17.symm
  · rw [← e18, up2_n _ _ (Or.inr (by omega))]; exact k16 j hj
  · rw [← e18, up2_c _ _ i2, o16 i i2]; exact o15 i i1
/-- the reference: looks go on by one -/
theorem q_shift {l : Nat} {w : Int} {b : (Int → (Nat → Nat → Int) → (Nat → Nat → Int) → Prop) → Int → (Nat → Nat → Int) → (Nat → Nat → Int) → Prop} (hb : b = (fun rc (z : Int) (V : Nat → Nat → Int) => (if z ≤ 0 then rdb (up2 V 1 ((7 * (l : Int) + 24).toNat) w) fun V65 => rtn V65 else rdb (V 1 ((7 * (l : Int) + z + 23).toNat)) fun z66 => rdb (up2 V 1 ((7 * (l : Int) + z + 24).toNat) z66) fun V67 => rc (z - 1) V67))) :
    ∀ (n z : Nat) (zi : Int) (V U : Nat → Nat → Int), zi = z → lop2 n b zi V U → (∀ i : Nat, i ≠ 1 → U i = V i) ∧ U 1 (24 + 7 * l) = w ∧ (∀ j : Nat, j < z → U 1 (24 + 7 * l + j + 1) = V 1 (24 + 7 * l + j)) ∧ ∀ k : Nat, (k < 24 + 7 * l ∨ 24 + 7 * l + z < k) → U 1 k = V 1 k := by
  intro n
  induction n with
  | zero => intro z zi V U _ h; exact False.elim h
  | succ n ih =>
    intro z zi V U hz h
    subst hz
    rw [lop2_s hb] at h
    cases z with
    | zero =>
      rw [if_pos (by decide), show (7 * (l : Int) + 24).toNat = 24 + 7 * l by omega] at h
      have h : U = up2 V 1 (24 + 7 * l) w := h
      subst h
      exact ⟨fun i hi => up2_c _ _ hi, up2_s _ _ _ _, fun j hj => by omega, fun k hk => up2_n _ _ (Or.inr (by omega))⟩
    | succ z =>
      rw [if_neg (by omega), show (7 * (l : Int) + ((z + 1 : Nat) : Int) + 23).toNat = 24 + 7 * l + z by omega, show (7 * (l : Int) + ((z + 1 : Nat) : Int) + 24).toNat = 24 + 7 * l + z + 1 by omega, show ((z + 1 : Nat) : Int) - 1 = (z : Int) by omega] at h
      simp only [rdb] at h
      obtain ⟨h1, h2, h3, h4⟩ := ih z _ _ U rfl h
      refine ⟨fun i hi => by rw [h1 i hi, up2_c _ _ hi], h2, fun j hj => ?_, fun k hk => ?_⟩
      · by_cases e : j = z
        · subst e
          rw [h4 _ (by omega), up2_s]
        · rw [h3 j (by omega), up2_n _ _ (Or.inr (by omega))]
      · rw [h4 k (by omega), up2_n _ _ (Or.inr (by omega))]
theorem q_dFin {l : Nat} {w d r : Int} {V V16 W U : Nat → Nat → Int} (hl : l < 4) (o16 : ∀ i : Nat, i ≠ 1 → V16 i = V i) (k16 : ∀ k : Nat, k ≠ 12 + l → k ≠ 16 + l → V16 1 k = V 1 k) (d16 : V16 1 (12 + l) = d) (r16 : V16 1 (16 + l) = r)
    (h1 : ∀ i : Nat, i ≠ 1 → W i = V16 i) (h2 : ∀ k : Nat, k ≠ 77 → W 1 k = V16 1 k) (h3 : W 1 77 = (if V 1 (8 + l) ≤ d ∨ V 1 (8 + l) ≤ r then iOr (V 1 77) (iShl 1 l) else V 1 77))
    (h4 : lop2 (8) (fun rc55 (z54 : Int) (V55 : Nat → Nat → Int) => (if z54 ≤ 0 then rdb (up2 V55 1 ((7 * (l : Int) + 24).toNat) w) fun V65 => rtn V65 else rdb (V55 1 ((7 * (l : Int) + z54 + 23).toNat)) fun z66 => rdb (up2 V55 1 ((7 * (l : Int) + z54 + 24).toNat) z66) fun V67 => rc55 (z54 - 1) V67)) 6 W U) :
    (∀ i : Nat, i ≠ 1 → U i = V i) ∧ (U 1 (12 + l) = d ∧ U 1 (16 + l) = r ∧ U 1 77 = (if V 1 (8 + l) ≤ d ∨ V 1 (8 + l) ≤ r then iOr (V 1 77) (iShl 1 l) else V 1 77)) ∧ (U 1 (24 + 7 * l) = w ∧ ∀ j : Nat, j < 6 → U 1 (24 + 7 * l + j + 1) = V 1 (24 + 7 * l + j)) ∧ ∀ k : Nat, k ≠ 12 + l → k ≠ 16 + l → k ≠ 77 → (k < 24 + 7 * l ∨ 30 + 7 * l < k) → U 1 k = V 1 k := by
  obtain ⟨b, hb, h4⟩ := lop2_g h4
  obtain ⟨s1, s2, s3, s4⟩ := q_shift hb 8 6 6 W U rfl h4
  refine ⟨fun i hi => by rw [s1 i hi, h1 i hi, o16 i hi], ⟨?_, ?_, ?_⟩, ⟨s2, fun j hj => ?_⟩, fun k k1 k2 k3 k4 => ?_⟩
  · rw [s4 _ (by omega), h2 _ (by omega), d16]
  · rw [s4 _ (by omega), h2 _ (by omega), r16]
  · rw [s4 _ (by omega), h3]
  · rw [s3 j hj, h2 _ (by omega), k16 _ (by omega) (by omega)]
  · rw [s4 _ (by omega), h2 _ k3, k16 _ k1 k2]
/-- what dries() does behind the asking -/
def dTail (x1 z7 z1 z2 : Int) (V9 : Nat → Nat → Int) : (Nat → Nat → Int) → Prop :=
  jnk (fun (z10 : Int) => rdb (up2 V9 1 ((x1 + 12).toNat) z10) fun V12 => rdb (V12 1 x1.toNat) fun z13 => fct (0 ≤ z13 ∧ z13 ≤ 24) <| jnk (fun (z14 : Int) => rdb (up2 V12 1 ((x1 + 16).toNat) z14) fun V16 => rdb (V16 1 ((x1 + 8).toNat)) fun z17 => fct (0 ≤ z17 ∧ z17 ≤ 9) <| jnk (fun (V28 : Nat → Nat → Int) => lop2 (8) (fun rc55 (z54 : Int) (V55 : Nat → Nat → Int) => (if z54 ≤ 0 then rdb (up2 V55 1 ((7 * x1 + 24).toNat) z7) fun V65 => rtn V65 else rdb (V55 1 ((7 * x1 + z54 + 23).toNat)) fun z66 => rdb (up2 V55 1 ((7 * x1 + z54 + 24).toNat) z66) fun V67 => rc55 (z54 - 1) V67)) 6 V28) fun jf28 => (if z17 ≤ z10 then rdb (V16 1 77) fun z69 => rdb (iShl 1 x1) fun z70 => rdb (iOr z69 z70) fun z71 => rdb (up2 V16 1 77 z71) fun V72 => jf28 V72 else (if z14 < z17 then jf28 V16 else rdb (V16 1 77) fun z75 => rdb (iShl 1 x1) fun z76 => rdb (iOr z75 z76) fun z77 => rdb (up2 V16 1 77 z77) fun V78 => jf28 V78))) fun jf15 => (if ¬ z7 = z13 then jf15 0 else jf15 (z2 + 1))) fun jf11 => (if ¬ z7 = 0 then jf11 0 else jf11 (z1 + 1))
set_option maxRecDepth 100000 in
theorem q_dTail {l : Nat} {w d0 r0 : Int} {V U : Nat → Nat → Int} (hl : l < 4) (h : dTail l w d0 r0 V U) :
    ∃ d r : Int, d = (if w = 0 then d0 + 1 else 0) ∧ r = (if w = V 1 l then r0 + 1 else 0) ∧ (∀ i : Nat, i ≠ 1 → U i = V i) ∧ (U 1 (12 + l) = d ∧ U 1 (16 + l) = r ∧ U 1 77 = (if V 1 (8 + l) ≤ d ∨ V 1 (8 + l) ≤ r then iOr (V 1 77) (iShl 1 l) else V 1 77)) ∧ (U 1 (24 + 7 * l) = w ∧ ∀ j : Nat, j < 6 → U 1 (24 + 7 * l + j + 1) = V 1 (24 + 7 * l + j)) ∧ ∀ k : Nat, k ≠ 12 + l → k ≠ 16 + l → k ≠ 77 → (k < 24 + 7 * l ∨ 30 + 7 * l < k) → U 1 k = V 1 k := by
  unfold dTail at h
  have h := jnk_if h
  rw [show ((l : Int) + 12).toNat = 12 + l by omega, show ((l : Int) + 16).toNat = 16 + l by omega, show ((l : Int) + 8).toNat = 8 + l by omega, Int.toNat_natCast] at h
  obtain ⟨V12, e12, h⟩ := rdb_g h
  obtain ⟨z13, e13, -, h⟩ := rdb_g h
  have h := jnk_if h
  obtain ⟨V16, e16, h⟩ := rdb_g h
  obtain ⟨z17, e17, -, h⟩ := rdb_g h
  have ep : z13 = V 1 l := by rw [← e13, ← e12, up2_n _ _ (Or.inr (by omega))]
  rw [ep] at h e16
  have hd : (if ¬ w = 0 then (0 : Int) else d0 + 1) = (if w = 0 then d0 + 1 else 0) := by
    by_cases g : w = 0
    · rw [if_neg (fun hh => hh g), if_pos g]
    · rw [if_pos g, if_neg g]
  have hr : (if ¬ w = V 1 l then (0 : Int) else r0 + 1) = (if w = V 1 l then r0 + 1 else 0) := by
    by_cases g : w = V 1 l
    · rw [if_neg (fun hh => hh g), if_pos g]
    · rw [if_pos g, if_neg g]
  rw [hd] at h e12
  rw [hr] at h e16
  refine ⟨_, _, rfl, rfl, ?_⟩
  generalize (if w = 0 then d0 + 1 else 0) = d at *
  generalize (if w = V 1 l then r0 + 1 else 0) = r at *
  have o16 : ∀ i : Nat, i ≠ 1 → V16 i = V i := fun i hi => by rw [← e16, up2_c _ _ hi, ← e12, up2_c _ _ hi]
  have k16 : ∀ k : Nat, k ≠ 12 + l → k ≠ 16 + l → V16 1 k = V 1 k := fun k k1 k2 => by rw [← e16, up2_n _ _ (Or.inr k2), ← e12, up2_n _ _ (Or.inr k1)]
  have d16 : V16 1 (12 + l) = d := by rw [← e16, up2_n _ _ (Or.inr (by omega)), ← e12, up2_s]
  have r16 : V16 1 (16 + l) = r := by rw [← e16, up2_s]
  have ez : z17 = V 1 (8 + l) := by rw [← e17]; exact k16 _ (by omega) (by omega)
  subst ez
  have fin := fun W h1 h2 h3 h4 => q_dFin (V := V) (V16 := V16) (W := W) (U := U) (w := w) (d := d) (r := r) hl o16 k16 d16 r16 h1 h2 h3 h4
  have k77 : V16 1 77 = V 1 77 := k16 _ (by omega) (by omega)
  have h := jnk_d h
  by_cases g1 : V 1 (8 + l) ≤ d
  · rw [if_pos g1] at h
    obtain ⟨y1, f1, h⟩ := rdb_g h
    obtain ⟨y2, f2, h⟩ := rdb_g h
    obtain ⟨y3, f3, h⟩ := rdb_g h
    obtain ⟨V72, f4, h⟩ := rdb_g h
    exact fin V72 (fun i hi => by rw [← f4, up2_c _ _ hi]) (fun k hk => by rw [← f4, up2_n _ _ (Or.inr hk)]) (by rw [← f4, up2_s, ← f3, ← f2, ← f1, k77, if_pos (Or.inl g1)]) h
  · rw [if_neg g1] at h
    by_cases g2 : r < V 1 (8 + l)
    · rw [if_pos g2] at h
      exact fin V16 (fun i hi => rfl) (fun k hk => rfl) (by rw [k77, if_neg (by omega)]) h
    · rw [if_neg g2] at h
      obtain ⟨y1, f1, h⟩ := rdb_g h
      obtain ⟨y2, f2, h⟩ := rdb_g h
      obtain ⟨y3, f3, h⟩ := rdb_g h
      obtain ⟨V72, f4, h⟩ := rdb_g h
      exact fin V72 (fun i hi => by rw [← f4, up2_c _ _ hi]) (fun k hk => by rw [← f4, up2_n _ _ (Or.inr hk)]) (by rw [← f4, up2_s, ← f3, ← f2, ← f1, k77, if_pos (Or.inr (by omega))]) h
theorem d_goes {b l : Nat} {lt a z : Int} {Vx Jx Vm W Jm Ux Um : Nat → Nat → Int} {Rx Rm : Nat → Nat → Nat} (hb : isLa b) (hl : l < 4) (hR : RLz b Vx (Vm 1)) (hT : RTx Rx Vx W) (ht : Vx (b + 3 + 2 * l) 0 = 1)
    (h0 : W 18 0 = Vm 1 79 ∧ W 18 1 = iRem (Vm 1 79) 7 ∧ W 18 10 = cnt (Vm 1 78)) (h1 : W 18 2 = l ∧ W 18 3 = Vm 1 l ∧ W 18 4 = Vm 1 (4 + l) ∧ W 18 5 = Vm 1 (30 + 7 * l) ∧ W 18 6 = Vm 1 (12 + l) ∧ W 18 7 = Vm 1 (16 + l) ∧ W 18 11 = agM (Vm 1 (20 + l)) (Vm 1 79)) (h2 : W 18 8 = 0 ∧ W 18 9 = 0 ∧ W 18 12 = 0)
    (hx : f_s_goes b l lt Vx Jx Rx (a, Ux)) (hm : f_m_byText 0 lt 9 W Jm Rm (z, Um)) : a = z ∧ (0 ≤ a ∧ a ≤ 999) ∧ (∀ i : Nat, i ≠ 69 → i ≠ 70 → i ≠ 71 → Ux i = Vx i) ∧ ∀ i : Nat, i ≠ 17 → Um i = W i := by
  have bb := isLa_b hb
  simp only [f_s_goes, rdb, Int.toNat_natCast] at hx
  obtain ⟨V4, h4, -, V7, h7, -, V10, h10, -, a2, V13, h13, B13, ar, hx⟩ := hx
  simp only [rtn, Prod.mk.injEq] at hx
  obtain ⟨rfl, rfl⟩ := hx
  obtain ⟨e4, r4⟩ := q_onDay h4
  obtain ⟨e7, r7⟩ := q_of h7 (by omega)
  obtain ⟨e10, r10⟩ := q_byNobody h10
  obtain ⟨hPl, hPe, hn, hd, -⟩ := hR
  have hpl := hPl l hl
  have k4 : V4 b = Vx b := r4 b (by omega)
  have k4c : V4 (b + 3 + 2 * l) = Vx (b + 3 + 2 * l) := r4 _ (by omega)
  have k4k : V4 (b + 3 + 2 * l + 1) = Vx (b + 3 + 2 * l + 1) := r4 _ (by omega)
  rw [k4, k4c, k4k, e4] at e7
  rw [e7] at e10
  have hxr : ∀ i : Nat, i ≠ 70 → V10 i = Vx i := fun i hi => by rw [r10 i hi, r7 i hi, r4 i hi]
  have hT2 := hT.cg (Ux := V10) (Um := W) (fun i h1 h2 h3 => hxr i (by omega)) (fun i h1 h2 => rfl)
  have hRF : RF V10 W := felt (b := b) (l := l) (V := Vx) (N := Vm) (f := V10 70) (F := W 18) (d := Vx b 3) (n := Vx b 2) (p := 0) (t := 0) (q := 0) (c := Vx (b + 3 + 2 * l)) (k := Vx (b + 3 + 2 * l + 1)) e10 hpl ht hd hn h0 h1 h2
  obtain ⟨g1, g2, g3⟩ := q_ask (tx := 0) hT2.1.1 (by decide) hT2.1.2 hRF (by decide) h13 hm
  exact ⟨g1, ar, fun i i1 i2 i3 => (B13.row (i := i) (fun k hk => by omega)).trans (hxr i i2), g3⟩
theorem d_endL {b l : Nat} {s : Int} {Vx Jx Vm Jm Ux Um : Nat → Nat → Int} {Rx Rm : Nat → Nat → Nat} (hb : isLa b) (hl : l < 4) (hD : RLz b Vx (Vm 1)) (hT : RTx Rx Vx Vm) (h76 : bt (Vm 1 76) l = 1) (h77 : ¬ bt (Vm 1 77) l = 1)
    (hx : f_s_endDay b l s Vx Jx Rx Ux) (hm : f_m_dries l s Vm Jm Rm Um) : RLz b Ux (Um 1) ∧ ((Vx b 5 = Vm 0 27 → Ux b 5 = Um 0 27) ∧ (Vx b 6 = Vm 0 28 → Ux b 6 = Um 0 28) ∧ (Vx b 7 = Vm 0 29 → Ux b 7 = Um 0 29)) ∧ RTx Rx Ux Um ∧ (Um 1 78 = Vm 1 78 ∧ Um 1 79 = Vm 1 79) ∧ ∀ i : Nat, i ≠ 69 → i ≠ 70 → i ≠ 71 → i ≠ b + 3 + 2 * l → i ≠ b + 3 + 2 * l + 1 → Ux i = Vx i := by
  have bb := isLa_b hb
  have hR := hD
  have hR0 := hR
  obtain ⟨hPl, hPe, hn, hd, hx4, hs76, hs77, hs78, h79, h80⟩ := hR
  have hpl := hPl l hl
  obtain ⟨p0, p1, p2, p3, p4, p5, p6, p7, p8, p9, p10, p11, p12, p13⟩ := hpl
  have ht : Vx (b + 3 + 2 * l) 0 = 1 := p0.trans h76
  have nd : ¬ dedX (Vx (b + 3 + 2 * l)) := fun h => h77 (p8.mpr h)
  have nd2 : Vx (b + 3 + 2 * l) 4 < Vx (b + 3 + 2 * l) 3 ∧ Vx (b + 3 + 2 * l) 5 < Vx (b + 3 + 2 * l) 3 := by
    unfold dedX at nd
    omega
  unfold f_m_dries at hm
  obtain ⟨d0, ed0, -, hm⟩ := rdb_g hm
  obtain ⟨r0, er0, -, hm⟩ := rdb_g hm
  rw [show ((l : Int) + 12).toNat = 12 + l by omega] at ed0
  rw [show ((l : Int) + 16).toNat = 16 + l by omega] at er0
  obtain ⟨W3, h3, -, hm⟩ := hm
  obtain ⟨ge, W4, h4, -, -, hm⟩ := hm
  obtain ⟨f1, f2, f3, f4⟩ := q_feelsPlant h3 ⟨by omega, by omega⟩
  rw [Int.toNat_natCast] at f3
  unfold f_s_endDay at hx
  obtain ⟨g, V1, h1, -, -, hx⟩ := hx
  have hT3 := hT.cg (Ux := Vx) (Um := W3) (fun _ _ _ _ => rfl) (fun i i1 i2 => f1 i (by omega))
  obtain ⟨e1, r1, x1, m1⟩ := d_goes hb hl hR0 hT3 ht f2 f3 f4 h1 h4
  subst e1
  -- how many go
  have both : ∃ (V4 : Nat → Nat → Int) (W5 W9 : Nat → Nat → Int) (less w : Int), (0 ≤ less ∧ less ≤ 1998) ∧ (∀ i : Nat, i ≠ 69 → i ≠ 70 → i ≠ 71 → V4 i = Vx i) ∧ (∀ i : Nat, i ≠ 17 → i ≠ 18 → W5 i = Vm i) ∧ w = max 0 (Vm 1 (4 + l) - less) ∧ f_s_dryBy (b + 3 + 2 * l) less V4 Jx Rx Ux ∧ W9 = up2 W5 1 (4 + l) w ∧ dTail l w d0 r0 W9 Um := by
    have hW4 : ∀ i : Nat, i ≠ 17 → i ≠ 18 → W4 i = Vm i := fun i i1 i2 => (m1 i i1).trans (f1 i i2)
    have hx := jnk_d hx
    by_cases hs : s = 0
    · rw [if_pos hs] at hx hm
      obtain ⟨c5, ec5, hx⟩ := rdb_g hx
      obtain ⟨V6, h6, -, hx⟩ := hx
      have hx : Ux = V6 := hx
      subst hx
      rw [Int.toNat_natCast] at ec5
      subst ec5
      obtain ⟨y6, e6, -, hm⟩ := rdb_g hm
      obtain ⟨w, hw, hm⟩ := hm
      obtain ⟨W9, e9, hm⟩ := rdb_g hm
      have hw := q_max hw
      rw [show ((l : Int) + 4).toNat = 4 + l by omega, hW4 1 (by decide) (by decide)] at e6
      rw [show ((l : Int) + 4).toNat = 4 + l by omega] at e9
      subst e6
      exact ⟨V1, W4, W9, g, w, by omega, x1, hW4, hw, h6, e9.symm, hm⟩
    · rw [if_neg hs] at hx hm
      obtain ⟨gh, V8, h8, -, -, hx⟩ := hx
      obtain ⟨c5, ec5, hx⟩ := rdb_g hx
      obtain ⟨V6, h6, -, hx⟩ := hx
      have hx : Ux = V6 := hx
      subst hx
      rw [Int.toNat_natCast] at ec5
      subst ec5
      obtain ⟨gm, W81, h81, -, -, hm⟩ := hm
      have hR1 : RLz b V1 (Vm 1) := by
        refine ⟨fun q hq => ?_, fun q hq => ?_, ?_, ?_, ?_, hs76, hs77, hs78, h79, h80⟩
        · rw [x1 (b + 3 + 2 * q) (by omega) (by omega) (by omega), x1 (b + 3 + 2 * q + 1) (by omega) (by omega) (by omega)]; exact hPl q hq
        · rw [x1 (b + 11 + q) (by omega) (by omega) (by omega)]; exact hPe q hq
        · rw [x1 b (by omega) (by omega) (by omega)]; exact hn
        · rw [x1 b (by omega) (by omega) (by omega)]; exact hd
        · rw [x1 b (by omega) (by omega) (by omega)]; exact hx4
      have hT4 := hT3.cg (Ux := V1) (Um := W4) (fun i i1 i2 i3 => x1 i (by omega) (by omega) (by omega)) (fun i i1 i2 => m1 i (by omega))
      have m18 : W4 18 = W3 18 := m1 18 (by decide)
      obtain ⟨e2, r2, x2, m2⟩ := d_goes hb hl hR1 hT4 (by rw [x1 _ (by omega) (by omega) (by omega)]; exact ht) (by rw [m18]; exact f2) (by rw [m18]; exact f3) (by rw [m18]; exact f4) h8 h81
      subst e2
      obtain ⟨y6, e6, -, hm⟩ := rdb_g hm
      obtain ⟨w, hw, hm⟩ := hm
      obtain ⟨W9, e9, hm⟩ := rdb_g hm
      have hw := q_max hw
      have hW8 : ∀ i : Nat, i ≠ 17 → i ≠ 18 → W81 i = Vm i := fun i i1 i2 => (m2 i i1).trans (hW4 i i1 i2)
      rw [show ((l : Int) + 4).toNat = 4 + l by omega, hW8 1 (by decide) (by decide)] at e6
      rw [show ((l : Int) + 4).toNat = 4 + l by omega] at e9
      subst e6
      exact ⟨V8, W81, W9, g + gh, w, by omega, fun i i1 i2 i3 => (x2 i i1 i2 i3).trans (x1 i i1 i2 i3), hW8, by omega, h6, e9.symm, hm⟩
  obtain ⟨V4, W5, W9, less, w, hless, hV4, hW5, hw, hdry, e9, htail⟩ := both
  have v4c : V4 (b + 3 + 2 * l) = Vx (b + 3 + 2 * l) := hV4 _ (by omega) (by omega) (by omega)
  have v4k : V4 (b + 3 + 2 * l + 1) = Vx (b + 3 + 2 * l + 1) := hV4 _ (by omega) (by omega) (by omega)
  obtain ⟨w2, d, r, ew, ed, er, ⟨u2, u4, u5, uo⟩, ⟨uk0, uk⟩, ux⟩ := q_sDry hdry (by rw [v4c]; exact p10) hless (by rw [v4c]; exact p12) (by rw [v4c]; exact p13)
  rw [v4c] at ew ed er
  have eww : w2 = w := by rw [ew, hw, p2]
  subst eww
  obtain ⟨d2, r2, ed2, er2, t1, ⟨t12, t16, t77⟩, ⟨t24, tk⟩, tof⟩ := q_dTail hl htail
  have n9 : ∀ k : Nat, k ≠ 4 + l → W9 1 k = Vm 1 k := fun k hk => by rw [e9, up2_n _ _ (Or.inr hk), hW5 1 (by decide) (by decide)]
  have n94 : W9 1 (4 + l) = w2 := by rw [e9, up2_s]
  have o9 : ∀ i : Nat, i ≠ 1 → i ≠ 17 → i ≠ 18 → W9 i = Vm i := fun i i1 i2 i3 => by rw [e9, up2_c _ _ i1]; exact hW5 i i2 i3
  rw [n9 l (by omega)] at er2
  have edd : d2 = d := by rw [ed2, ed, p4, ← ed0]
  have err : r2 = r := by rw [er2, er, p5, ← er0, p1]
  subst edd err
  rw [n9 (8 + l) (by omega), n9 77 (by omega)] at t77
  have hNo : ∀ k : Nat, k ≠ 4 + l → k ≠ 12 + l → k ≠ 16 + l → k ≠ 77 → (k < 24 + 7 * l ∨ 30 + 7 * l < k) → Um 1 k = Vm 1 k := fun k k0 k1 k2 k3 k4 => by rw [tof k k1 k2 k3 k4]; exact n9 k k0
  have h4 : Um 1 (4 + l) = w2 := by rw [tof _ (by omega) (by omega) (by omega) (by omega)]; exact n94
  have dr : 0 ≤ d2 ∧ d2 ≤ 9 := by
    rw [ed2]; split <;> omega
  have rr : 0 ≤ r2 ∧ r2 ≤ 9 := by
    rw [er2]; split <;> omega
  have hor := bt_or (s := Vm 1 77) (p := (l : Int)) ⟨by omega, by omega⟩ ⟨by omega, by omega⟩
  have hor4 := bt_or4 (s := Vm 1 77) (p := (l : Int)) hs77 ⟨by omega, by omega⟩
  have hb77 : ∀ q : Nat, q < 4 → q ≠ l → bt (Um 1 77) q = bt (Vm 1 77) q := fun q hq hne => by
    rw [t77]
    split
    · rw [hor.2 q ⟨by omega, by omega⟩, if_neg (by omega)]
    · rfl
  have UX : ∀ i : Nat, i ≠ 69 → i ≠ 70 → i ≠ 71 → i ≠ b + 3 + 2 * l → i ≠ b + 3 + 2 * l + 1 → Ux i = Vx i := fun i i1 i2 i3 i4 i5 => (ux i i4 i5).trans (hV4 i i1 i2 i3)
  have ub : Ux b = Vx b := UX b (by omega) (by omega) (by omega) (by omega) (by omega)
  refine ⟨⟨fun q hq => ?_, fun q hq => ?_, ?_, ?_, ?_, ?_, ?_, ?_, ?_, ?_⟩, ⟨fun d5 => ?_, fun d6 => ?_, fun d7 => ?_⟩, ?_, ⟨hNo 78 (by omega) (by omega) (by omega) (by omega) (by omega), hNo 79 (by omega) (by omega) (by omega) (by omega) (by omega)⟩, UX⟩
  · by_cases e : q = l
    · subst e
      have c0 : Ux (b + 3 + 2 * q) 0 = Vx (b + 3 + 2 * q) 0 := by rw [uo 0 (by decide) (by decide) (by decide), v4c]
      have c1 : Ux (b + 3 + 2 * q) 1 = Vx (b + 3 + 2 * q) 1 := by rw [uo 1 (by decide) (by decide) (by decide), v4c]
      have c3 : Ux (b + 3 + 2 * q) 3 = Vx (b + 3 + 2 * q) 3 := by rw [uo 3 (by decide) (by decide) (by decide), v4c]
      have c6 : Ux (b + 3 + 2 * q) 6 = Vx (b + 3 + 2 * q) 6 := by rw [uo 6 (by decide) (by decide) (by decide), v4c]
      have c7 : Ux (b + 3 + 2 * q) 7 = Vx (b + 3 + 2 * q) 7 := by rw [uo 7 (by decide) (by decide) (by decide), v4c]
      unfold RPl dedX
      rw [c0, c1, c3, c6, c7, u2, u4, u5, hNo 76 (by omega) (by omega) (by omega) (by omega) (by omega), hNo q (by omega) (by omega) (by omega) (by omega) (by omega), h4, hNo (8 + q) (by omega) (by omega) (by omega) (by omega) (by omega), t12, t16, hNo (20 + q) (by omega) (by omega) (by omega) (by omega) (by omega)]
      refine ⟨p0, p1, rfl, p3, rfl, rfl, fun j hj => ?_, p7, ?_, p9, by omega, p11, dr, rr⟩
      · cases j with
        | zero => rw [uk0]; exact t24.symm
        | succ j => rw [uk j (by omega), v4k, p6 j (by omega), show 24 + 7 * q + (j + 1) = 24 + 7 * q + j + 1 by omega, tk j (by omega), n9 _ (by omega)]
      · rw [t77, p3]
        by_cases hc : Vm 1 (8 + q) ≤ d2 ∨ Vm 1 (8 + q) ≤ r2
        · rw [if_pos hc, hor.2 q ⟨by omega, by omega⟩, if_pos rfl]
          exact ⟨fun _ => ⟨by omega, hc⟩, fun _ => rfl⟩
        · rw [if_neg hc]
          exact ⟨fun hh => absurd hh h77, fun hh => absurd hh.2 hc⟩
    · refine (hPl q hq).cg (UX _ (by omega) (by omega) (by omega) (by omega) (by omega)) (UX _ (by omega) (by omega) (by omega) (by omega) (by omega)) (fun j hj => ?_) (by rw [hNo 76 (by omega) (by omega) (by omega) (by omega) (by omega)]) (hb77 q hq e)
      exact hNo j (by omega) (by omega) (by omega) (by omega) (by omega)
  · refine (hPe q hq).cg (UX _ (by omega) (by omega) (by omega) (by omega) (by omega)) (fun j hj => hNo j (by omega) (by omega) (by omega) (by omega) (by omega)) (hNo 78 (by omega) (by omega) (by omega) (by omega) (by omega))
  · rw [ub, hNo 78 (by omega) (by omega) (by omega) (by omega) (by omega)]; exact hn
  · rw [ub, hNo 79 (by omega) (by omega) (by omega) (by omega) (by omega)]; exact hd
  · rw [ub, hNo 80 (by omega) (by omega) (by omega) (by omega) (by omega)]; exact hx4
  · rw [hNo 76 (by omega) (by omega) (by omega) (by omega) (by omega)]; exact hs76
  · rw [t77]; split <;> omega
  · rw [hNo 78 (by omega) (by omega) (by omega) (by omega) (by omega)]; exact hs78
  · rw [hNo 79 (by omega) (by omega) (by omega) (by omega) (by omega)]; exact h79
  · rw [hNo 80 (by omega) (by omega) (by omega) (by omega) (by omega)]; exact h80
  · rw [ub, t1 0 (by decide), o9 0 (by decide) (by decide) (by decide)]; exact d5
  · rw [ub, t1 0 (by decide), o9 0 (by decide) (by decide) (by decide)]; exact d6
  · rw [ub, t1 0 (by decide), o9 0 (by decide) (by decide) (by decide)]; exact d7
  · exact hT.cg (fun i i1 i2 i3 => UX i (by omega) (by omega) (by omega) (by omega) (by omega)) (fun i i1 i2 => by rw [t1 i (by omega)]; exact o9 i (by omega) (by omega) (by omega))
theorem d_end {b l : Nat} {s : Int} {Vx Jx Vm Jm Ux Um : Nat → Nat → Int} {Rx Rm : Nat → Nat → Nat} (hb : isLa b) (hl : l < 4) (hD : RD b Vx Vm) (hT : RTx Rx Vx Vm) (h76 : bt (Vm 1 76) l = 1) (h77 : ¬ bt (Vm 1 77) l = 1)
    (hx : f_s_endDay b l s Vx Jx Rx Ux) (hm : f_m_dries l s Vm Jm Rm Um) : RD b Ux Um ∧ RTx Rx Ux Um ∧ Um 1 78 = Vm 1 78 ∧ Um 1 79 = Vm 1 79 := by
  obtain ⟨r1, ⟨c5, c6, c7⟩, r2, r3, -⟩ := d_endL hb hl hD.1 hT h76 h77 hx hm
  exact ⟨⟨r1, c5 hD.2.1, c6 hD.2.2.1, c7 hD.2.2.2⟩, r2, r3⟩
end
