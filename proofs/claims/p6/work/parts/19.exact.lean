-- frames: what a method does not change
def FB (P : Nat → Nat → Prop) (V W : Nat → Nat → Int) : Prop := ∀ i k : Nat, ¬ P i k → W i k = V i k
section XFB
variable {P P2 : Nat → Nat → Prop} {V W X : Nat → Nat → Int} {i k : Nat} {a : Int}
theorem FB.rf (P : Nat → Nat → Prop) (V : Nat → Nat → Int) : FB P V V := fun _ _ _ => rfl
theorem FB.up (h : FB P V W) (hX : X = up2 W i k a) (hp : P i k) : FB P V X := by
  subst hX
  intro j q hj
  by_cases e : j = i ∧ q = k
  · obtain ⟨rfl, rfl⟩ := e
    exact absurd hp hj
  · rw [up2_n _ _ (by omega)]
    exact h j q hj
theorem FB.tr (h : FB P V W) (h2 : FB P2 W X) (hs : ∀ i k, P2 i k → P i k) : FB P V X := fun i k hi => (h2 i k (fun hh => hi (hs i k hh))).trans (h i k hi)
theorem FB.cp (h : FB P V W) {sp j dp n : Nat} (hX : X = cpV W i sp j dp n) (hp : ∀ k, P j k) : FB P V X := by
  subst hX
  intro q r hq
  unfold cpV
  split
  · next hh =>
    obtain ⟨rfl, -, -⟩ := hh
    exact absurd (hp r) hq
  · exact h q r hq
def mkey (i k : Nat) : Nat := if i = 0 then k else 64 + i
theorem mkey_r {i k : Nat} (h : i ≠ 0) : mkey i k = 64 + i := if_neg h
def FBm (m : Nat) (V W : Nat → Nat → Int) : Prop := ∀ i k : Nat, m.testBit (mkey i k) = false → W i k = V i k
theorem FBm.rf (m : Nat) (V : Nat → Nat → Int) : FBm m V V := fun _ _ _ => rfl
theorem FBm.up {m : Nat} (h : FBm m V W) (hX : X = up2 W i k a) (ht : m.testBit (mkey i k) = true) : FBm m V X := by
  subst hX
  intro j q hj
  by_cases e : j = i ∧ q = k
  · obtain ⟨rfl, rfl⟩ := e
    rw [ht] at hj
    cases hj
  · rw [up2_n _ _ (by omega)]
    exact h j q hj
theorem FBm.tr {m1 : Nat} (h : FBm m1 V W) {m : Nat} (h2 : FBm m W X) (hs : m &&& m1 = m) : FBm m1 V X := fun i k hi => by
  refine (h2 i k ?_).trans (h i k hi)
  rw [← hs, Nat.testBit_and, hi, Bool.and_false]
end XFB
-- what a method does, as a relation: steps
def Imp {ρ : Type} (A B : ρ → Prop) : Prop := ∀ r : ρ, A r → B r
theorem Imp.of_eq {ρ : Type} {A B : ρ → Prop} (h : A = B) : Imp B A := fun r hb => by rw [h]; exact hb
theorem Imp.to {ρ : Type} {A B F : ρ → Prop} (h : Imp A F) (e : A = B) : Imp B F := fun r hb => h r (by rw [e]; exact hb)
def rtn {ρ : Type} (x : ρ) : ρ → Prop := fun r => r = x
def rdb {α ρ : Type} (x : α) (k : α → ρ → Prop) : ρ → Prop := k x
theorem rdb_e {α ρ : Type} {x z : α} {k : α → ρ → Prop} (h : x = z) : rdb x k = k z := by rw [rdb, h]
def fct {ρ : Type} (p : Prop) (k : ρ → Prop) : ρ → Prop := fun r => p ∧ k r
theorem Imp.fc {ρ : Type} {p : Prop} {k F : ρ → Prop} (h : Imp (fct p k) F) (hp : p) : Imp k F := fun r hk => h r ⟨hp, hk⟩
def jnk {α ρ : Type} (k : α) (f : α → ρ → Prop) : ρ → Prop := f k
theorem jn_ex {α ρ : Type} {F : ρ → Prop} {k : α} {f : α → ρ → Prop} (h : Imp (jnk k f) F) : ∃ j : α, j = k ∧ Imp (f j) F := ⟨k, rfl, h⟩
def calR {α ρ : Type} (C : α → Prop) (k : α → ρ → Prop) : ρ → Prop := fun r => ∃ z : α, C z ∧ k z r
theorem calR_i {α ρ : Type} {C : α → Prop} {k : α → ρ → Prop} {F : ρ → Prop} {z : α} (h : Imp (calR C k) F) (hc : C z) : Imp (k z) F := fun r hk => h r ⟨z, hc, hk⟩
def calVX {α ρ : Type} (P : Nat → Nat → Prop) (V : Nat → Nat → Int) (C : α × (Nat → Nat → Int) → Prop) (k : α → (Nat → Nat → Int) → ρ → Prop) : ρ → Prop := fun r => ∃ (z : α) (U : Nat → Nat → Int), C (z, U) ∧ FB P V U ∧ k z U r
theorem calVX_i {α ρ : Type} {P : Nat → Nat → Prop} {V U : Nat → Nat → Int} {C : α × (Nat → Nat → Int) → Prop} {k : α → (Nat → Nat → Int) → ρ → Prop} {F : ρ → Prop} {z : α} (h : Imp (calVX P V C k) F) (hc : C (z, U)) (hb : FB P V U) : Imp (k z U) F := fun r hk => h r ⟨z, U, hc, hb, hk⟩
def calUX {ρ : Type} (P : Nat → Nat → Prop) (V : Nat → Nat → Int) (C : (Nat → Nat → Int) → Prop) (k : (Nat → Nat → Int) → ρ → Prop) : ρ → Prop := fun r => ∃ U : Nat → Nat → Int, C U ∧ FB P V U ∧ k U r
theorem calUX_i {ρ : Type} {P : Nat → Nat → Prop} {V U : Nat → Nat → Int} {C : (Nat → Nat → Int) → Prop} {k : (Nat → Nat → Int) → ρ → Prop} {F : ρ → Prop} (h : Imp (calUX P V C k) F) (hc : C U) (hb : FB P V U) : Imp (k U) F := fun r hk => h r ⟨U, hc, hb, hk⟩
def calSX {α ρ : Type} (P : Nat → Nat → Prop) (V : Nat → Nat → Int) (C : α × xS → Prop) (k : α → (Nat → Nat → Int) → (Nat → Nat → Int) → (Nat → Nat → Nat) → ρ → Prop) : ρ → Prop := fun r => ∃ (z : α) (U J : Nat → Nat → Int) (R : Nat → Nat → Nat), C (z, (U, J, R)) ∧ FB P V U ∧ k z U J R r
theorem calSX_i {α ρ : Type} {P : Nat → Nat → Prop} {V U J : Nat → Nat → Int} {R : Nat → Nat → Nat} {C : α × xS → Prop} {k : α → (Nat → Nat → Int) → (Nat → Nat → Int) → (Nat → Nat → Nat) → ρ → Prop} {F : ρ → Prop} {z : α} (h : Imp (calSX P V C k) F) (hc : C (z, (U, J, R))) (hb : FB P V U) : Imp (k z U J R) F := fun r hk => h r ⟨z, U, J, R, hc, hb, hk⟩
def calTX {ρ : Type} (P : Nat → Nat → Prop) (V : Nat → Nat → Int) (C : xS → Prop) (k : (Nat → Nat → Int) → (Nat → Nat → Int) → (Nat → Nat → Nat) → ρ → Prop) : ρ → Prop := fun r => ∃ (U J : Nat → Nat → Int) (R : Nat → Nat → Nat), C (U, J, R) ∧ FB P V U ∧ k U J R r
theorem calTX_i {ρ : Type} {P : Nat → Nat → Prop} {V U J : Nat → Nat → Int} {R : Nat → Nat → Nat} {C : xS → Prop} {k : (Nat → Nat → Int) → (Nat → Nat → Int) → (Nat → Nat → Nat) → ρ → Prop} {F : ρ → Prop} (h : Imp (calTX P V C k) F) (hc : C (U, J, R)) (hb : FB P V U) : Imp (k U J R) F := fun r hk => h r ⟨U, J, R, hc, hb, hk⟩
def calVM {α ρ : Type} (P : Nat) (V : Nat → Nat → Int) (C : α × (Nat → Nat → Int) → Prop) (k : α → (Nat → Nat → Int) → ρ → Prop) : ρ → Prop := fun r => ∃ (z : α) (U : Nat → Nat → Int), C (z, U) ∧ FBm P V U ∧ k z U r
theorem calVM_i {α ρ : Type} {P : Nat} {V U : Nat → Nat → Int} {C : α × (Nat → Nat → Int) → Prop} {k : α → (Nat → Nat → Int) → ρ → Prop} {F : ρ → Prop} {z : α} (h : Imp (calVM P V C k) F) (hc : C (z, U)) (hb : FBm P V U) : Imp (k z U) F := fun r hk => h r ⟨z, U, hc, hb, hk⟩
def calUM {ρ : Type} (P : Nat) (V : Nat → Nat → Int) (C : (Nat → Nat → Int) → Prop) (k : (Nat → Nat → Int) → ρ → Prop) : ρ → Prop := fun r => ∃ U : Nat → Nat → Int, C U ∧ FBm P V U ∧ k U r
theorem calUM_i {ρ : Type} {P : Nat} {V U : Nat → Nat → Int} {C : (Nat → Nat → Int) → Prop} {k : (Nat → Nat → Int) → ρ → Prop} {F : ρ → Prop} (h : Imp (calUM P V C k) F) (hc : C U) (hb : FBm P V U) : Imp (k U) F := fun r hk => h r ⟨U, hc, hb, hk⟩
def calSM {α ρ : Type} (P : Nat) (V : Nat → Nat → Int) (C : α × xS → Prop) (k : α → (Nat → Nat → Int) → (Nat → Nat → Int) → (Nat → Nat → Nat) → ρ → Prop) : ρ → Prop := fun r => ∃ (z : α) (U J : Nat → Nat → Int) (R : Nat → Nat → Nat), C (z, (U, J, R)) ∧ FBm P V U ∧ k z U J R r
theorem calSM_i {α ρ : Type} {P : Nat} {V U J : Nat → Nat → Int} {R : Nat → Nat → Nat} {C : α × xS → Prop} {k : α → (Nat → Nat → Int) → (Nat → Nat → Int) → (Nat → Nat → Nat) → ρ → Prop} {F : ρ → Prop} {z : α} (h : Imp (calSM P V C k) F) (hc : C (z, (U, J, R))) (hb : FBm P V U) : Imp (k z U J R) F := fun r hk => h r ⟨z, U, J, R, hc, hb, hk⟩
def calTM {ρ : Type} (P : Nat) (V : Nat → Nat → Int) (C : xS → Prop) (k : (Nat → Nat → Int) → (Nat → Nat → Int) → (Nat → Nat → Nat) → ρ → Prop) : ρ → Prop := fun r => ∃ (U J : Nat → Nat → Int) (R : Nat → Nat → Nat), C (U, J, R) ∧ FBm P V U ∧ k U J R r
theorem calTM_i {ρ : Type} {P : Nat} {V U J : Nat → Nat → Int} {R : Nat → Nat → Nat} {C : xS → Prop} {k : (Nat → Nat → Int) → (Nat → Nat → Int) → (Nat → Nat → Nat) → ρ → Prop} {F : ρ → Prop} (h : Imp (calTM P V C k) F) (hc : C (U, J, R)) (hb : FBm P V U) : Imp (k U J R) F := fun r hk => h r ⟨U, J, R, hc, hb, hk⟩
theorem jn_s1 {α ρ : Type} {j k : α → ρ} (h : j = k) {x0 : α} : j x0 = k x0 := congrFun h x0
def lop1 {α ρ : Type} : Nat → ((α → ρ → Prop) → α → ρ → Prop) → α → ρ → Prop
  | 0, _, _ => fun _ => False
  | n + 1, b, x0 => b (lop1 n b) x0
theorem lop1_ex {α ρ : Type} {F : ρ → Prop} {n : Nat} {b : (α → ρ → Prop) → α → ρ → Prop} {x0 : α} (h : Imp (lop1 n b x0) F) : ∃ b2, b2 = b ∧ Imp (lop1 n b2 x0) F := ⟨b, rfl, h⟩
theorem lop1_s {α ρ : Type} {n : Nat} {b b2 : (α → ρ → Prop) → α → ρ → Prop} (h : b2 = b) {x0 : α} : lop1 (n + 1) b2 x0 = b (lop1 n b2) x0 := congrFun (congrFun h (lop1 n b2)) x0
theorem jn_s2 {α β ρ : Type} {j k : α → β → ρ} (h : j = k) {x0 : α} {x1 : β} : j x0 x1 = k x0 x1 := congrFun (congrFun h x0) x1
def lop2 {α β ρ : Type} : Nat → ((α → β → ρ → Prop) → α → β → ρ → Prop) → α → β → ρ → Prop
  | 0, _, _, _ => fun _ => False
  | n + 1, b, x0, x1 => b (lop2 n b) x0 x1
theorem lop2_ex {α β ρ : Type} {F : ρ → Prop} {n : Nat} {b : (α → β → ρ → Prop) → α → β → ρ → Prop} {x0 : α} {x1 : β} (h : Imp (lop2 n b x0 x1) F) : ∃ b2, b2 = b ∧ Imp (lop2 n b2 x0 x1) F := ⟨b, rfl, h⟩
theorem lop2_s {α β ρ : Type} {n : Nat} {b b2 : (α → β → ρ → Prop) → α → β → ρ → Prop} (h : b2 = b) {x0 : α} {x1 : β} : lop2 (n + 1) b2 x0 x1 = b (lop2 n b2) x0 x1 := congrFun (congrFun (congrFun h (lop2 n b2)) x0) x1
theorem jn_s3 {α β γ ρ : Type} {j k : α → β → γ → ρ} (h : j = k) {x0 : α} {x1 : β} {x2 : γ} : j x0 x1 x2 = k x0 x1 x2 := congrFun (congrFun (congrFun h x0) x1) x2
def lop3 {α β γ ρ : Type} : Nat → ((α → β → γ → ρ → Prop) → α → β → γ → ρ → Prop) → α → β → γ → ρ → Prop
  | 0, _, _, _, _ => fun _ => False
  | n + 1, b, x0, x1, x2 => b (lop3 n b) x0 x1 x2
theorem lop3_ex {α β γ ρ : Type} {F : ρ → Prop} {n : Nat} {b : (α → β → γ → ρ → Prop) → α → β → γ → ρ → Prop} {x0 : α} {x1 : β} {x2 : γ} (h : Imp (lop3 n b x0 x1 x2) F) : ∃ b2, b2 = b ∧ Imp (lop3 n b2 x0 x1 x2) F := ⟨b, rfl, h⟩
theorem lop3_s {α β γ ρ : Type} {n : Nat} {b b2 : (α → β → γ → ρ → Prop) → α → β → γ → ρ → Prop} (h : b2 = b) {x0 : α} {x1 : β} {x2 : γ} : lop3 (n + 1) b2 x0 x1 x2 = b (lop3 n b2) x0 x1 x2 := congrFun (congrFun (congrFun (congrFun h (lop3 n b2)) x0) x1) x2
theorem jn_s4 {α β γ δ ρ : Type} {j k : α → β → γ → δ → ρ} (h : j = k) {x0 : α} {x1 : β} {x2 : γ} {x3 : δ} : j x0 x1 x2 x3 = k x0 x1 x2 x3 := congrFun (congrFun (congrFun (congrFun h x0) x1) x2) x3
def lop4 {α β γ δ ρ : Type} : Nat → ((α → β → γ → δ → ρ → Prop) → α → β → γ → δ → ρ → Prop) → α → β → γ → δ → ρ → Prop
  | 0, _, _, _, _, _ => fun _ => False
  | n + 1, b, x0, x1, x2, x3 => b (lop4 n b) x0 x1 x2 x3
theorem lop4_ex {α β γ δ ρ : Type} {F : ρ → Prop} {n : Nat} {b : (α → β → γ → δ → ρ → Prop) → α → β → γ → δ → ρ → Prop} {x0 : α} {x1 : β} {x2 : γ} {x3 : δ} (h : Imp (lop4 n b x0 x1 x2 x3) F) : ∃ b2, b2 = b ∧ Imp (lop4 n b2 x0 x1 x2 x3) F := ⟨b, rfl, h⟩
theorem lop4_s {α β γ δ ρ : Type} {n : Nat} {b b2 : (α → β → γ → δ → ρ → Prop) → α → β → γ → δ → ρ → Prop} (h : b2 = b) {x0 : α} {x1 : β} {x2 : γ} {x3 : δ} : lop4 (n + 1) b2 x0 x1 x2 x3 = b (lop4 n b2) x0 x1 x2 x3 := congrFun (congrFun (congrFun (congrFun (congrFun h (lop4 n b2)) x0) x1) x2) x3
theorem jn_s5 {α β γ δ ε ρ : Type} {j k : α → β → γ → δ → ε → ρ} (h : j = k) {x0 : α} {x1 : β} {x2 : γ} {x3 : δ} {x4 : ε} : j x0 x1 x2 x3 x4 = k x0 x1 x2 x3 x4 := congrFun (congrFun (congrFun (congrFun (congrFun h x0) x1) x2) x3) x4
def lop5 {α β γ δ ε ρ : Type} : Nat → ((α → β → γ → δ → ε → ρ → Prop) → α → β → γ → δ → ε → ρ → Prop) → α → β → γ → δ → ε → ρ → Prop
  | 0, _, _, _, _, _, _ => fun _ => False
  | n + 1, b, x0, x1, x2, x3, x4 => b (lop5 n b) x0 x1 x2 x3 x4
theorem lop5_ex {α β γ δ ε ρ : Type} {F : ρ → Prop} {n : Nat} {b : (α → β → γ → δ → ε → ρ → Prop) → α → β → γ → δ → ε → ρ → Prop} {x0 : α} {x1 : β} {x2 : γ} {x3 : δ} {x4 : ε} (h : Imp (lop5 n b x0 x1 x2 x3 x4) F) : ∃ b2, b2 = b ∧ Imp (lop5 n b2 x0 x1 x2 x3 x4) F := ⟨b, rfl, h⟩
theorem lop5_s {α β γ δ ε ρ : Type} {n : Nat} {b b2 : (α → β → γ → δ → ε → ρ → Prop) → α → β → γ → δ → ε → ρ → Prop} (h : b2 = b) {x0 : α} {x1 : β} {x2 : γ} {x3 : δ} {x4 : ε} : lop5 (n + 1) b2 x0 x1 x2 x3 x4 = b (lop5 n b2) x0 x1 x2 x3 x4 := congrFun (congrFun (congrFun (congrFun (congrFun (congrFun h (lop5 n b2)) x0) x1) x2) x3) x4
theorem jn_s6 {α β γ δ ε ζ ρ : Type} {j k : α → β → γ → δ → ε → ζ → ρ} (h : j = k) {x0 : α} {x1 : β} {x2 : γ} {x3 : δ} {x4 : ε} {x5 : ζ} : j x0 x1 x2 x3 x4 x5 = k x0 x1 x2 x3 x4 x5 := congrFun (congrFun (congrFun (congrFun (congrFun (congrFun h x0) x1) x2) x3) x4) x5
def lop6 {α β γ δ ε ζ ρ : Type} : Nat → ((α → β → γ → δ → ε → ζ → ρ → Prop) → α → β → γ → δ → ε → ζ → ρ → Prop) → α → β → γ → δ → ε → ζ → ρ → Prop
  | 0, _, _, _, _, _, _, _ => fun _ => False
  | n + 1, b, x0, x1, x2, x3, x4, x5 => b (lop6 n b) x0 x1 x2 x3 x4 x5
theorem lop6_ex {α β γ δ ε ζ ρ : Type} {F : ρ → Prop} {n : Nat} {b : (α → β → γ → δ → ε → ζ → ρ → Prop) → α → β → γ → δ → ε → ζ → ρ → Prop} {x0 : α} {x1 : β} {x2 : γ} {x3 : δ} {x4 : ε} {x5 : ζ} (h : Imp (lop6 n b x0 x1 x2 x3 x4 x5) F) : ∃ b2, b2 = b ∧ Imp (lop6 n b2 x0 x1 x2 x3 x4 x5) F := ⟨b, rfl, h⟩
theorem lop6_s {α β γ δ ε ζ ρ : Type} {n : Nat} {b b2 : (α → β → γ → δ → ε → ζ → ρ → Prop) → α → β → γ → δ → ε → ζ → ρ → Prop} (h : b2 = b) {x0 : α} {x1 : β} {x2 : γ} {x3 : δ} {x4 : ε} {x5 : ζ} : lop6 (n + 1) b2 x0 x1 x2 x3 x4 x5 = b (lop6 n b2) x0 x1 x2 x3 x4 x5 := congrFun (congrFun (congrFun (congrFun (congrFun (congrFun (congrFun h (lop6 n b2)) x0) x1) x2) x3) x4) x5
def wrJ (z : Int) : Int := (Int64.ofInt z).toInt
section XEX
variable {p : Program} {l : Launch} {e : Env} {R : Room} {s : State} {m : MethodId} {args : Array Value} {below : List Frame} {meth : Method} {c : Code} {cells slots : Nat} {Q : State → Prop}
variable {D : va_G} {A : Nat → Prop} {H0 : Heap} {nL : Nat} {ws : va_W} {pc : Nat} {lv : List (Nat × Value)} {st : List Value} {cc : ByteArray} {Ts : List Cond} {own : String} {TY : List (ClassId × FieldType)}
theorem x_wrapJg {z : Int} (k : ∀ y : Int, R64 y → y = wrJ z → xW p l e R s m args below meth c D A H0 nL cells slots Q ws pc lv (vJ y :: st)) : xW p l e R s m args below meth c D A H0 nL cells slots Q ws pc lv (vJ z :: st) := by
  have k := k (Int64.ofInt z).toInt (xj_r _) rfl
  rw [vJ, xj_of] at k
  exact k
end XEX
