section XMA
variable {p : Program} {l : Launch} {e : Env} {R : Room} {s : State} {m : MethodId} {args : Array Value} {below : List Frame} {meth : Method} {c : Code} {cells slots : Nat} {Q : State → Prop}
variable {D : va_G} {A : Nat → Prop} {H0 : Heap} {nL : Nat} {ws : va_W} {pc : Nat} {lv : List (Nat × Value)} {st : List Value} {cc : ByteArray} {own : String} {TY : List (ClassId × FieldType)}
theorem x_mmax (C : xC2 p s m args meth c D A H0 nL cc own TY) {index : Nat} (hlink : Cond.methodLink own index yJ9_max_7cf53 ∈ WG) {x y : Int} (hx : R32 x) (hy : R32 y) (hd : decode cc pc = .ok (.invokestatic index, 3)) (hR : 1 ≤ R.frames ∧ 21 ≤ R.locals) (hW : (st.map fun v => v.category).sum ≤ 8) (hf : cells ≤ R.cells ∧ slots ≤ R.slots)
    (kk : ∀ z : Int, ((z = x ∧ y ≤ x) ∨ (z = y ∧ x ≤ y)) → xW p l e R s m args below meth c D A H0 nL cells slots Q ws (pc + 3) lv (vI z :: st)) : xW p l e R s m args below meth c D A H0 nL cells slots Q ws pc lv (vI y :: vI x :: st) := by
  intro H locs la hP hD hS hl
  refine va_mmax C.1.1 C.1.2.1 (C.1.2.2.1.trans hl.1.symm) C.1.2.2.2.1 (C.1.2.2.2.2.1 _ hlink) (C.1.2.2.2.2.1 _ wi_yJ9_max_7cf53) (C.1.2.2.2.2.1 _ wn_J9) (C.1.2.2.2.2.1 _ wm_yJ9_max_7cf53) hR.1 (by omega) hf.1 hf.2 hd ?_
  by_cases h : x < y
  · rw [if_pos ((xi_lt hx hy).mpr h)]
    exact kk y (Or.inr ⟨rfl, by omega⟩) H locs la hP hD hS hl
  · rw [if_neg (fun h2 => h ((xi_lt hx hy).mp h2))]
    exact kk x (Or.inl ⟨rfl, by omega⟩) H locs la hP hD hS hl
theorem x_mmin (C : xC2 p s m args meth c D A H0 nL cc own TY) {index : Nat} (hlink : Cond.methodLink own index yJ9_min_7cf53 ∈ WG) {x y : Int} (hx : R32 x) (hy : R32 y) (hd : decode cc pc = .ok (.invokestatic index, 3)) (hR : 1 ≤ R.frames ∧ 21 ≤ R.locals) (hW : (st.map fun v => v.category).sum ≤ 8) (hf : cells ≤ R.cells ∧ slots ≤ R.slots)
    (kk : ∀ z : Int, ((z = x ∧ x ≤ y) ∨ (z = y ∧ y ≤ x)) → xW p l e R s m args below meth c D A H0 nL cells slots Q ws (pc + 3) lv (vI z :: st)) : xW p l e R s m args below meth c D A H0 nL cells slots Q ws pc lv (vI y :: vI x :: st) := by
  intro H locs la hP hD hS hl
  refine va_mmin C.1.1 C.1.2.1 (C.1.2.2.1.trans hl.1.symm) C.1.2.2.2.1 (C.1.2.2.2.2.1 _ hlink) (C.1.2.2.2.2.1 _ wi_yJ9_min_7cf53) (C.1.2.2.2.2.1 _ wn_J9) (C.1.2.2.2.2.1 _ wm_yJ9_min_7cf53) hR.1 (by omega) hf.1 hf.2 hd ?_
  by_cases h : y < x
  · first | rw [if_pos ((xi_lt hy hx).mpr h)] | rw [if_neg (fun h2 => absurd ((xi_lt hx hy).mp h2) (by omega))]
    exact kk y (Or.inr ⟨rfl, by omega⟩) H locs la hP hD hS hl
  · by_cases h3 : x < y
    · first | rw [if_neg (fun h2 => h ((xi_lt hy hx).mp h2))] | rw [if_pos ((xi_lt hx hy).mpr h3)]
      exact kk x (Or.inl ⟨rfl, by omega⟩) H locs la hP hD hS hl
    · have e : x = y := by omega
      subst e
      have : ∀ q : Prop, ∀ dq : Decidable q, (if q then (Int32.ofInt x) else (Int32.ofInt x)) = Int32.ofInt x := fun q dq => by split <;> rfl
      rw [this]
      exact kk x (Or.inl ⟨rfl, by omega⟩) H locs la hP hD hS hl
end XMA
/-- an answer of 1 or 0, by P -/
def Sq (z : Int) (P : Prop) : Prop := z = 1 ∧ P ∨ z = 0 ∧ ¬ P
theorem Sq.r {z : Int} {P : Prop} (h : Sq z P) : 0 ≤ z ∧ z ≤ 1 := by rcases h with ⟨h, -⟩ | ⟨h, -⟩ <;> omega
theorem Sq.on {z : Int} {P : Prop} (h : Sq z P) (hz : ¬ z = 0) : P := by
  rcases h with ⟨-, h⟩ | ⟨h, -⟩
  · exact h
  · exact absurd h hz
theorem Sq.off {z : Int} {P : Prop} (h : Sq z P) (hz : z = 0) : ¬ P := by
  rcases h with ⟨h, -⟩ | ⟨-, h⟩
  · omega
  · exact h
