-- the store: cells by their numbers
abbrev xD : Type := (Nat × List Nat) ⊕ (Nat × Nat × Nat × Nat × Nat)
def up1 {α : Type} (f : Nat → α) (k : Nat) (a : α) : Nat → α := fun j => if j = k then a else f j
def up2 {α : Type} (f : Nat → Nat → α) (i k : Nat) (a : α) : Nat → Nat → α := fun j => if j = i then up1 (f i) k a else f j
theorem up1_s {α : Type} (f : Nat → α) (k : Nat) (a : α) : up1 f k a k = a := by simp [up1]
theorem up1_n {α : Type} (f : Nat → α) {k j : Nat} (a : α) (h : j ≠ k) : up1 f k a j = f j := by simp [up1, h]
theorem up2_s {α : Type} (f : Nat → Nat → α) (i k : Nat) (a : α) : up2 f i k a i k = a := by simp [up2, up1]
theorem up2_n {α : Type} (f : Nat → Nat → α) {i k j q : Nat} (a : α) (h : j ≠ i ∨ q ≠ k) : up2 f i k a j q = f j q := by
  unfold up2 up1
  by_cases hj : j = i
  · subst hj
    rcases h with h | h
    · exact absurd rfl h
    · simp [h]
  · simp [hj]
theorem up2_c {α : Type} (f : Nat → Nat → α) {i k j : Nat} (a : α) (h : j ≠ i) : up2 f i k a j = f j := by simp [up2, h]
def xval (ad : Nat → Nat) (V : Nat → Int) (J : Nat → Int) (Rr : Nat → Nat) (k : Nat) : Nat → Value
  | 0 => vI (V k)
  | 1 => vJ (J k)
  | 2 => .ref (ad (Rr k))
  | q + 3 => .ref (ad q)
def xvals (ad : Nat → Nat) (V : Nat → Int) (J : Nat → Int) (Rr : Nat → Nat) : Nat → List Nat → List Value
  | _, [] => []
  | n, t :: ts => xval ad V J Rr n t :: xvals ad V J Rr (n + 1) ts
theorem xvals_get {ad : Nat → Nat} {V J : Nat → Int} {Rr : Nat → Nat} : ∀ (ks : List Nat) (n k : Nat) {t : Nat}, ks[k]? = some t → (xvals ad V J Rr n ks)[k]? = some (xval ad V J Rr (n + k) t)
  | [], n, k, t, h => by simp at h
  | q :: ks, n, 0, t, h => by simp at h; subst h; simp [xvals]
  | q :: ks, n, k + 1, t, h => by
    simp only [List.getElem?_cons_succ] at h
    simp only [xvals, List.getElem?_cons_succ]
    rw [xvals_get ks (n + 1) k h, show n + 1 + k = n + (k + 1) by omega]
theorem xvals_len {ad : Nat → Nat} {V J : Nat → Int} {Rr : Nat → Nat} : ∀ (ks : List Nat) (n : Nat), (xvals ad V J Rr n ks).length = ks.length
  | [], n => rfl
  | q :: ks, n => by simp [xvals, xvals_len ks (n + 1)]
theorem xvals_V {ad : Nat → Nat} {V V' J : Nat → Int} {Rr : Nat → Nat} : ∀ (ks : List Nat) (n : Nat), (∀ j, n ≤ j → V j = V' j) → xvals ad V J Rr n ks = xvals ad V' J Rr n ks
  | [], n, h => rfl
  | q :: ks, n, h => by
    simp only [xvals]
    rw [xvals_V ks (n + 1) (fun j hj => h j (by omega))]
    congr 1
    match q with
    | 0 => simp [xval, h n (Nat.le_refl n)]
    | 1 => rfl
    | 2 => rfl
    | q + 3 => rfl
theorem xvals_J {ad : Nat → Nat} {V J J' : Nat → Int} {Rr : Nat → Nat} : ∀ (ks : List Nat) (n : Nat), (∀ j, n ≤ j → J j = J' j) → xvals ad V J Rr n ks = xvals ad V J' Rr n ks
  | [], n, h => rfl
  | q :: ks, n, h => by
    simp only [xvals]
    rw [xvals_J ks (n + 1) (fun j hj => h j (by omega))]
    congr 1
    match q with
    | 0 => rfl
    | 1 => simp [xval, h n (Nat.le_refl n)]
    | 2 => rfl
    | q + 3 => rfl
theorem xvals_R {ad : Nat → Nat} {V J : Nat → Int} {Rr Rr' : Nat → Nat} : ∀ (ks : List Nat) (n : Nat), (∀ j, n ≤ j → Rr j = Rr' j) → xvals ad V J Rr n ks = xvals ad V J Rr' n ks
  | [], n, h => rfl
  | q :: ks, n, h => by
    simp only [xvals]
    rw [xvals_R ks (n + 1) (fun j hj => h j (by omega))]
    congr 1
    match q with
    | 0 => rfl
    | 1 => rfl
    | 2 => simp [xval, h n (Nat.le_refl n)]
    | q + 3 => rfl
theorem xvals_setV {ad : Nat → Nat} {V J : Nat → Int} {Rr : Nat → Nat} {a : Int} : ∀ (ks : List Nat) (n k : Nat), ks[k]? = some 0 → (xvals ad V J Rr n ks).set k (vI a) = xvals ad (up1 V (n + k) a) J Rr n ks
  | [], n, k, h => by simp at h
  | q :: ks, n, 0, h => by
    simp at h; subst h
    simp only [xvals, List.set_cons_zero, xval, Nat.add_zero, up1_s]
    congr 1
    exact xvals_V ks (n + 1) (fun j hj => (up1_n V a (by omega)).symm)
  | q :: ks, n, k + 1, h => by
    simp only [List.getElem?_cons_succ] at h
    simp only [xvals, List.set_cons_succ]
    rw [xvals_setV ks (n + 1) k h, show n + 1 + k = n + (k + 1) by omega]
    congr 1
    match q with
    | 0 => simp only [xval]; rw [up1_n V a (by omega)]
    | 1 => rfl
    | 2 => rfl
    | q + 3 => rfl
theorem xvals_setJ {ad : Nat → Nat} {V J : Nat → Int} {Rr : Nat → Nat} {a : Int} : ∀ (ks : List Nat) (n k : Nat), ks[k]? = some 1 → (xvals ad V J Rr n ks).set k (vJ a) = xvals ad V (up1 J (n + k) a) Rr n ks
  | [], n, k, h => by simp at h
  | q :: ks, n, 0, h => by
    simp at h; subst h
    simp only [xvals, List.set_cons_zero, xval, Nat.add_zero, up1_s]
    congr 1
    exact xvals_J ks (n + 1) (fun j hj => (up1_n J a (by omega)).symm)
  | q :: ks, n, k + 1, h => by
    simp only [List.getElem?_cons_succ] at h
    simp only [xvals, List.set_cons_succ]
    rw [xvals_setJ ks (n + 1) k h, show n + 1 + k = n + (k + 1) by omega]
    congr 1
    match q with
    | 0 => rfl
    | 1 => simp only [xval]; rw [up1_n J a (by omega)]
    | 2 => rfl
    | q + 3 => rfl
theorem xvals_setR {ad : Nat → Nat} {V J : Nat → Int} {Rr : Nat → Nat} {a : Nat} : ∀ (ks : List Nat) (n k : Nat), ks[k]? = some 2 → (xvals ad V J Rr n ks).set k (.ref (ad a)) = xvals ad V J (up1 Rr (n + k) a) n ks
  | [], n, k, h => by simp at h
  | q :: ks, n, 0, h => by
    simp at h; subst h
    simp only [xvals, List.set_cons_zero, xval, Nat.add_zero, up1_s]
    congr 1
    exact xvals_R ks (n + 1) (fun j hj => (up1_n Rr a (by omega)).symm)
  | q :: ks, n, k + 1, h => by
    simp only [List.getElem?_cons_succ] at h
    simp only [xvals, List.set_cons_succ]
    rw [xvals_setR ks (n + 1) k h, show n + 1 + k = n + (k + 1) by omega]
    congr 1
    match q with
    | 0 => rfl
    | 1 => rfl
    | 2 => simp only [xval]; rw [up1_n Rr a (by omega)]
    | q + 3 => rfl
def xE (cy : Nat → ClassId) (ad : Nat → Nat) (V J : Nat → Int) (Rr : Nat → Nat) : xD → va_E
  | .inl (ci, ks) => .inr (ci, xvals ad V J Rr 0 ks)
  | .inr (t, n, 0, _, _) => .inl (cy t, n, .inl (fun k => Int32.ofInt (V k)))
  | .inr (t, n, 1, _, _) => .inl (cy t, n, .inr (.inl (fun k => Int64.ofInt (J k))))
  | .inr (t, n, 2, _, _) => .inl (cy t, n, .inr (.inr (.inr (.inr (fun k => some (ad (Rr k)))))))
  | .inr (t, n, _ + 3, b, d) => .inl (cy t, n, .inr (.inr (.inr (.inr (fun k => some (ad (b + d * k)))))))
def xw (N : Nat) (dsc : Nat → xD) (cy : Nat → ClassId) (ad : Nat → Nat) (V J : Nat → Nat → Int) (Rr : Nat → Nat → Nat) : va_W := (List.range N).map (fun i => (ad i, xE cy ad (V i) (J i) (Rr i) (dsc i)))
section XWL
variable {N : Nat} {dsc : Nat → xD} {cy : Nat → ClassId} {ad : Nat → Nat} {V J : Nat → Nat → Int} {Rr : Nat → Nat → Nat}
theorem xw_at {i : Nat} {d : xD} (hi : i < N) (hd : dsc i = d) : (xw N dsc cy ad V J Rr)[i]? = some (ad i, xE cy ad (V i) (J i) (Rr i) d) := by
  subst hd
  simp [xw, hi]
theorem xw_set {i : Nat} {e : va_E} {V' J' : Nat → Nat → Int} {Rr' : Nat → Nat → Nat} (hi : i < N) (he : e = xE cy ad (V' i) (J' i) (Rr' i) (dsc i)) (hV : ∀ j, j ≠ i → V' j = V j) (hJ : ∀ j, j ≠ i → J' j = J j) (hR : ∀ j, j ≠ i → Rr' j = Rr j) : (xw N dsc cy ad V J Rr).set i (ad i, e) = xw N dsc cy ad V' J' Rr' := by
  apply List.ext_getElem?
  intro j
  by_cases hj : j = i
  · subst hj
    rw [List.getElem?_set_self (by simp [xw, hi])]
    simp [xw, hi, he]
  · rw [List.getElem?_set_ne (Ne.symm hj)]
    simp only [xw, List.getElem?_map]
    cases hb : (List.range N)[j]? with
    | none => rfl
    | some b =>
      have : b = j := by
        have h1 := (List.getElem?_eq_some_iff.mp hb).2
        simpa using h1.symm
      subst this
      simp [hV _ hj, hJ _ hj, hR _ hj]
end XWL
