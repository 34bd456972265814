-- what is tried leaves the landing as it was (own work)
theorem lop1_k {α ρ : Type} {b : (α → ρ → Prop) → α → ρ → Prop} (I : α → Prop) (Q : ρ → Prop) (hs : ∀ rc : α → ρ → Prop, (∀ x, I x → ∀ r, rc x r → Q r) → ∀ x, I x → ∀ r, b rc x r → Q r) : ∀ (n : Nat) (x : α), I x → ∀ r, lop1 n b x r → Q r := by
  intro n
  induction n with
  | zero => intro x _ r h; exact False.elim h
  | succ n ih => intro x hI r h; exact hs _ ih x hI r h
theorem lop2_k {α β ρ : Type} {b : (α → β → ρ → Prop) → α → β → ρ → Prop} (I : α → β → Prop) (Q : ρ → Prop) (hs : ∀ rc : α → β → ρ → Prop, (∀ x y, I x y → ∀ r, rc x y r → Q r) → ∀ x y, I x y → ∀ r, b rc x y r → Q r) : ∀ (n : Nat) (x : α) (y : β), I x y → ∀ r, lop2 n b x y r → Q r := by
  intro n
  induction n with
  | zero => intro x y _ r h; exact False.elim h
  | succ n ih => intro x y hI r h; exact hs _ ih x y hI r h
theorem lop3_k {α β γ ρ : Type} {b : (α → β → γ → ρ → Prop) → α → β → γ → ρ → Prop} (I : α → β → γ → Prop) (Q : ρ → Prop) (hs : ∀ rc : α → β → γ → ρ → Prop, (∀ x y z, I x y z → ∀ r, rc x y z r → Q r) → ∀ x y z, I x y z → ∀ r, b rc x y z r → Q r) : ∀ (n : Nat) (x : α) (y : β) (z : γ), I x y z → ∀ r, lop3 n b x y z r → Q r := by
  intro n
  induction n with
  | zero => intro x y z _ r h; exact False.elim h
  | succ n ih => intro x y z hI r h; exact hs _ ih x y z hI r h
theorem lop4_k {α β γ δ ρ : Type} {b : (α → β → γ → δ → ρ → Prop) → α → β → γ → δ → ρ → Prop} (I : α → β → γ → δ → Prop) (Q : ρ → Prop) (hs : ∀ rc : α → β → γ → δ → ρ → Prop, (∀ x y z w, I x y z w → ∀ r, rc x y z w r → Q r) → ∀ x y z w, I x y z w → ∀ r, b rc x y z w r → Q r) : ∀ (n : Nat) (x : α) (y : β) (z : γ) (w : δ), I x y z w → ∀ r, lop4 n b x y z w r → Q r := by
  intro n
  induction n with
  | zero => intro x y z w _ r h; exact False.elim h
  | succ n ih => intro x y z w hI r h; exact hs _ ih x y z w hI r h
theorem lop6_k {α β γ δ ε ζ ρ : Type} {b : (α → β → γ → δ → ε → ζ → ρ → Prop) → α → β → γ → δ → ε → ζ → ρ → Prop} (I : α → β → γ → δ → ε → ζ → Prop) (Q : ρ → Prop) (hs : ∀ rc : α → β → γ → δ → ε → ζ → ρ → Prop, (∀ x y z w u v, I x y z w u v → ∀ r, rc x y z w u v r → Q r) → ∀ x y z w u v, I x y z w u v → ∀ r, b rc x y z w u v r → Q r) : ∀ (n : Nat) (x : α) (y : β) (z : γ) (w : δ) (u : ε) (v : ζ), I x y z w u v → ∀ r, lop6 n b x y z w u v r → Q r := by
  intro n
  induction n with
  | zero => intro x y z w u v _ r h; exact False.elim h
  | succ n ih => intro x y z w u v hI r h; exact hs _ ih x y z w u v hI r h
set_option maxRecDepth 100000 in
theorem k_goes {n m a : Int} {W J X J2 : Nat → Nat → Int} {R R2 : Nat → Nat → Nat} (h : f_m_goesThrough n m W J R (a, (X, J2, R2))) : ∀ k : Nat, X 1 k = W 1 k := by
  unfold f_m_goesThrough at h
  obtain ⟨d, ed, h⟩ := rdb_g h
  obtain ⟨J3, -, h⟩ := rdb_g h
  refine lop2_k (fun _ _ => True) (fun r : Int × xS => ∀ k : Nat, r.2.1 1 k = W 1 k) (fun rc hrc z J4 _ r h => ?_) _ _ _ trivial _ h
  by_cases g : 500 ≤ z
  · rw [if_pos g] at h
    obtain ⟨_, -, -, h⟩ := rdb_g h
    obtain ⟨_, -, -, h⟩ := rdb_g h
    obtain ⟨_, -, -, h⟩ := rdb_g h
    obtain ⟨_, -, -, h⟩ := rdb_g h
    obtain ⟨_, -, -, h⟩ := h
    obtain ⟨J5, -, h⟩ := rdb_g h
    refine lop4_k (fun _ V _ _ => ∀ k : Nat, k ≠ 79 → V 1 k = W 1 k) (fun r : Int × xS => ∀ k : Nat, r.2.1 1 k = W 1 k) (fun rc4 hrc4 z V J R hV r h => ?_) _ _ _ _ _ (fun _ _ => rfl) _ h
    by_cases g4 : n ≤ z
    · rw [if_pos g4] at h
      obtain ⟨V2, e2, h⟩ := rdb_g h
      obtain ⟨_, -, -, h⟩ := rdb_g h
      obtain ⟨_, -, -, h⟩ := h
      obtain ⟨_, -, h⟩ := rdb_g h
      obtain ⟨_, -, h⟩ := rdb_g h
      simp only [rtn] at h
      subst h
      intro k
      show V2 1 k = W 1 k
      rw [← e2]
      by_cases gk : k = 79
      · rw [gk, up2_s, ← ed]
      · rw [up2_n _ _ (Or.inr gk)]
        exact hV k gk
    · rw [if_neg g4] at h
      obtain ⟨_, -, h⟩ := rdb_g h
      obtain ⟨_, -, -, h⟩ := h
      obtain ⟨_, -, h⟩ := rdb_g h
      obtain ⟨_, -, h⟩ := rdb_g h
      refine lop2_k (fun _ _ => True) (fun r : Int × xS => ∀ k : Nat, r.2.1 1 k = W 1 k) (fun rc5 hrc5 z5 J5 _ r h => ?_) _ _ _ trivial _ h
      by_cases g5 : 500 ≤ z5
      · rw [if_pos g5] at h
        refine lop4_k (fun _ V _ _ => ∀ k : Nat, k ≠ 79 → V 1 k = W 1 k) (fun r : Int × xS => ∀ k : Nat, r.2.1 1 k = W 1 k) (fun rc6 hrc6 z6 V6 J6 R6 hV6 r h => ?_) _ _ _ _ _ hV _ h
        by_cases g6 : 500 ≤ z6
        · rw [if_pos g6] at h
          refine lop2_k (fun _ _ => True) (fun r : Int × xS => ∀ k : Nat, r.2.1 1 k = W 1 k) (fun rc7 hrc7 z7 J7 _ r h => ?_) _ _ _ trivial _ h
          by_cases g7 : 500 ≤ z7
          · rw [if_pos g7] at h
            obtain ⟨_, -, h⟩ := rdb_g h
            obtain ⟨_, -, h⟩ := rdb_g h
            obtain ⟨V8, e8, h⟩ := rdb_g h
            exact hrc4 _ _ _ _ (fun k hk => by rw [← e8, up2_n _ _ (Or.inr hk)]; exact hV6 k hk) _ h
          · rw [if_neg g7] at h
            exact hrc7 _ _ trivial _ h
        · rw [if_neg g6] at h
          obtain ⟨w, -, h⟩ := rdb_g h
          have h := jnk_d h
          by_cases g7 : ¬ lcI w 0 = 0
          · rw [if_pos g7] at h
            obtain ⟨V7, J7, R7, -, hF, h⟩ := h
            refine lop4_k (fun _ V _ _ => ∀ k : Nat, k ≠ 79 → V 1 k = W 1 k) (fun r : Int × xS => ∀ k : Nat, r.2.1 1 k = W 1 k) (fun rc8 hrc8 z8 V8 J8 R8 hV8 r h => ?_) _ _ _ _ _ (fun k hk => by rw [hF.rw 1 (by decide) (by decide)]; exact hV6 k hk) _ h
            by_cases g8 : 24 < z8
            · rw [if_pos g8] at h
              exact hrc6 _ _ _ _ hV8 _ h
            · rw [if_neg g8] at h
              obtain ⟨w8, -, h⟩ := rdb_g h
              have h := jnk_d h
              by_cases g9 : ¬ lcI w8 0 = 0
              · rw [if_pos g9] at h
                obtain ⟨V9, J9, R9, -, hF9, h⟩ := h
                obtain ⟨V10, J10, R10, -, hF10, h⟩ := h
                exact hrc8 _ _ _ _ (fun k hk => by rw [hF10.rw 1 (by decide) (by decide), hF9.rw 1 (by decide) (by decide)]; exact hV8 k hk) _ h
              · rw [if_neg g9] at h
                exact hrc8 _ _ _ _ hV8 _ h
          · rw [if_neg g7] at h
            exact hrc6 _ _ _ _ hV6 _ h
      · rw [if_neg g5] at h
        exact hrc5 _ _ trivial _ h
  · rw [if_neg g] at h
    exact hrc _ _ trivial _ h
theorem k_lastsWith {l x a : Int} {W J X : Nat → Nat → Int} {R : Nat → Nat → Nat} (h : f_m_lastsWith l x W J R (a, X)) : ∀ k : Nat, k < 81 → X 1 k = W 1 k := by
  unfold f_m_lastsWith at h
  obtain ⟨_, -, -, h⟩ := rdb_g h
  obtain ⟨_, -, -, h⟩ := rdb_g h
  obtain ⟨V3, e3, h⟩ := rdb_g h
  obtain ⟨_, -, -, h⟩ := rdb_g h
  obtain ⟨_, -, -, h⟩ := rdb_g h
  obtain ⟨_, -, h⟩ := h
  obtain ⟨V8, e8, h⟩ := rdb_g h
  refine lop2_k (fun _ V => ∀ k : Nat, k < 81 → V 2 k = W 1 k) (fun r : Int × (Nat → Nat → Int) => ∀ k : Nat, k < 81 → r.2 1 k = W 1 k) (fun rc hrc z V hV r h => ?_) _ _ _ (fun k hk => by rw [← e8, up2_c _ _ (by decide), ← e3, cpN_at hk]) _ h
  by_cases g : 60 ≤ z
  · rw [if_pos g] at h
    obtain ⟨V9, e9, h⟩ := rdb_g h
    simp only [rtn] at h
    subst h
    intro k hk
    show V9 1 k = W 1 k
    rw [← e9, cpN_at hk]
    exact hV k hk
  · rw [if_neg g] at h
    obtain ⟨_, -, -, h⟩ := rdb_g h
    obtain ⟨_, -, -, h⟩ := rdb_g h
    obtain ⟨U, -, hF, h⟩ := h
    have hU : ∀ k : Nat, k < 81 → U 2 k = W 1 k := fun k hk => by rw [hF.rw 2 (by decide) (by decide)]; exact hV k hk
    obtain ⟨y, -, -, h⟩ := h
    by_cases gy : ¬ y = 0
    · rw [if_pos gy] at h
      obtain ⟨_, -, -, h⟩ := rdb_g h
      obtain ⟨_, -, -, h⟩ := rdb_g h
      obtain ⟨_, -, h⟩ := rdb_g h
      obtain ⟨_, -, h⟩ := rdb_g h
      obtain ⟨U2, e2, h⟩ := rdb_g h
      exact hrc _ _ (fun k hk => by rw [← e2, up2_c _ _ (by decide)]; exact hU k hk) _ h
    · rw [if_neg gy] at h
      obtain ⟨V9, e9, h⟩ := rdb_g h
      simp only [rtn] at h
      subst h
      intro k hk
      show V9 1 k = W 1 k
      rw [← e9, cpN_at hk]
      exact hU k hk
theorem k_wetBehind {x y c a : Int} {W J X : Nat → Nat → Int} {R : Nat → Nat → Nat} (h : f_m_wetBehind x y c W J R (a, X)) : ∀ k : Nat, k < 81 → X 1 k = W 1 k := by
  unfold f_m_wetBehind at h
  obtain ⟨V1, e1, h⟩ := rdb_g h
  refine lop2_k (fun _ V => ∀ k : Nat, k < 81 → V 2 k = W 1 k) (fun r : Int × (Nat → Nat → Int) => ∀ k : Nat, k < 81 → r.2 1 k = W 1 k) (fun rc hrc z V hV r h => ?_) _ _ _ (fun k hk => by rw [← e1, cpN_at hk]) _ h
  have h := jnk_d h
  have fin : ∀ (z9 : Int), (rdb (cpN V 2 1 81) fun V361 => rtn (z9, V361)) r → ∀ k : Nat, k < 81 → r.2 1 k = W 1 k := by
    intro z9 h
    obtain ⟨V9, e9, h⟩ := rdb_g h
    simp only [rtn] at h
    subst h
    intro k hk
    show V9 1 k = W 1 k
    rw [← e9, cpN_at hk]
    exact hV k hk
  have out : (calR (f_m_lives x V J R) fun z354 => fct (0 ≤ z354 ∧ z354 ≤ 1) <| jnk (fun (z359 : Int) => rdb (cpN V 2 1 81) fun V361 => rtn (z359, V361)) fun jf360 => (if z354 = 0 then jf360 ((-1)) else rdb (V 1 ((x + 12).toNat)) fun z364 => fct (0 ≤ z364 ∧ z364 ≤ 8) <| rdb (V 1 ((x + 16).toNat)) fun z365 => fct (0 ≤ z365 ∧ z365 ≤ 8) <| rdb (V 1 ((x + 4).toNat)) fun z366 => fct (0 ≤ z366 ∧ z366 ≤ 24) <| jf360 z366)) r → ∀ k : Nat, k < 81 → r.2 1 k = W 1 k := by
    intro h
    obtain ⟨y2, -, -, h⟩ := h
    have h := jnk_d h
    by_cases gy : y2 = 0
    · rw [if_pos gy] at h
      exact fin _ h
    · rw [if_neg gy] at h
      obtain ⟨_, -, -, h⟩ := rdb_g h
      obtain ⟨_, -, -, h⟩ := rdb_g h
      obtain ⟨_, -, -, h⟩ := rdb_g h
      exact fin _ h
  by_cases g : 7 ≤ z
  · rw [if_pos g] at h
    exact out h
  · rw [if_neg g] at h
    obtain ⟨y3, -, -, h⟩ := h
    by_cases gy : y3 = 0
    · rw [if_pos gy] at h
      exact out h
    · rw [if_neg gy] at h
      obtain ⟨_, -, -, h⟩ := rdb_g h
      obtain ⟨_, -, -, h⟩ := rdb_g h
      obtain ⟨w, -, -, h⟩ := h
      by_cases gw : y ≤ w
      · rw [if_pos gw] at h
        obtain ⟨U, -, hF, h⟩ := h
        obtain ⟨_, -, h⟩ := rdb_g h
        obtain ⟨_, -, h⟩ := rdb_g h
        obtain ⟨U2, e2, h⟩ := rdb_g h
        exact hrc _ _ (fun k hk => by rw [← e2, up2_c _ _ (by decide), hF.rw 2 (by decide) (by decide)]; exact hV k hk) _ h
      · rw [if_neg gw] at h
        obtain ⟨_, -, -, h⟩ := rdb_g h
        obtain ⟨U0, -, hF0, h⟩ := h
        obtain ⟨U, -, hF, h⟩ := h
        obtain ⟨_, -, h⟩ := rdb_g h
        obtain ⟨_, -, h⟩ := rdb_g h
        obtain ⟨U2, e2, h⟩ := rdb_g h
        exact hrc _ _ (fun k hk => by rw [← e2, up2_c _ _ (by decide), hF.rw 2 (by decide) (by decide), hF0.rw 2 (by decide) (by decide)]; exact hV k hk) _ h
theorem k_goesByRota {x : Int} {W J X : Nat → Nat → Int} {R : Nat → Nat → Nat} (h : f_m_goesByRota x W J R X) : ∀ k : Nat, k < 81 → X 1 k = W 1 k := by
  unfold f_m_goesByRota at h
  obtain ⟨V1, e1, h⟩ := rdb_g h
  obtain ⟨V2, e2, h⟩ := rdb_g h
  refine lop2_k (fun _ V => ∀ k : Nat, k < 81 → V 2 k = W 1 k) (fun r : Nat → Nat → Int => ∀ k : Nat, k < 81 → r 1 k = W 1 k) (fun rc hrc z V hV r h => ?_) _ _ _ (fun k hk => by rw [← e2, up2_c _ _ (by decide), ← e1, cpN_at hk]) _ h
  obtain ⟨y0, -, -, h⟩ := rdb_g h
  have h := jnk_d h
  have out : (rdb (V 1 ((x + 4).toNat)) fun z744 => fct (0 ≤ z744 ∧ z744 ≤ 24) <| rdb (up2 V 0 50 z744) fun V745 => rdb (cpN V745 2 1 81) fun V746 => rtn V746) r → ∀ k : Nat, k < 81 → r 1 k = W 1 k := by
    intro h
    obtain ⟨_, -, -, h⟩ := rdb_g h
    obtain ⟨V8, e8, h⟩ := rdb_g h
    obtain ⟨V9, e9, h⟩ := rdb_g h
    simp only [rtn] at h
    subst h
    intro k hk
    rw [← e9, cpN_at hk, ← e8, up2_c _ _ (by decide)]
    exact hV k hk
  have nxt : ∀ V764 : Nat → Nat → Int, (∀ k : Nat, k < 81 → V764 2 k = W 1 k) → (rdb (V764 1 79) fun z765 => rdb (wr (z765 + 1)) fun z766 => rdb (up2 V764 1 79 z766) fun V767 => rc (z + 1) V767) r → ∀ k : Nat, k < 81 → r 1 k = W 1 k := by
    intro V764 hV7 h
    obtain ⟨_, -, h⟩ := rdb_g h
    obtain ⟨_, -, h⟩ := rdb_g h
    obtain ⟨U2, e2, h⟩ := rdb_g h
    exact hrc _ _ (fun k hk => by rw [← e2, up2_c _ _ (by decide)]; exact hV7 k hk) _ h
  have rest : ∀ (V755 : Nat → Nat → Int) (s : Int), (∀ k : Nat, k < 81 → V755 2 k = W 1 k) → (calUM 7253591811175922467340288 V755 (f_m_dries x s V755 J R) fun V758 => calR (f_m_lives x V758 J R) fun z759 => fct (0 ≤ z759 ∧ z759 ≤ 1) <| jnk (fun (V764 : Nat → Nat → Int) => rdb (V764 1 79) fun z765 => rdb (wr (z765 + 1)) fun z766 => rdb (up2 V764 1 79 z766) fun V767 => rc (z + 1) V767) fun jf764 => (if ¬ z759 = 0 then rdb (V758 1 ((x + 12).toNat)) fun z770 => fct (0 ≤ z770 ∧ z770 ≤ 8) <| rdb (V758 1 ((x + 16).toNat)) fun z771 => fct (0 ≤ z771 ∧ z771 ≤ 8) <| jf764 V758 else rdb (up2 V758 0 49 z) fun V772 => jf764 V772)) r → ∀ k : Nat, k < 81 → r 1 k = W 1 k := by
    intro V755 s hV5 h
    obtain ⟨U, -, hF, h⟩ := h
    have hU : ∀ k : Nat, k < 81 → U 2 k = W 1 k := fun k hk => by rw [hF.rw 2 (by decide) (by decide)]; exact hV5 k hk
    obtain ⟨y, -, -, h⟩ := h
    have h := jnk_d h
    by_cases gy : ¬ y = 0
    · rw [if_pos gy] at h
      obtain ⟨_, -, -, h⟩ := rdb_g h
      obtain ⟨_, -, -, h⟩ := rdb_g h
      exact nxt _ hU h
    · rw [if_neg gy] at h
      obtain ⟨U3, e3, h⟩ := rdb_g h
      exact nxt _ (fun k hk => by rw [← e3, up2_c _ _ (by decide)]; exact hU k hk) h
  by_cases g : y0 ≤ z
  · rw [if_pos g] at h
    exact out h
  · rw [if_neg g] at h
    obtain ⟨y1, -, -, h⟩ := h
    by_cases gy : y1 = 0
    · rw [if_pos gy] at h
      exact out h
    · rw [if_neg gy] at h
      obtain ⟨_, -, -, h⟩ := rdb_g h
      obtain ⟨_, -, -, h⟩ := rdb_g h
      obtain ⟨w, -, -, h⟩ := rdb_g h
      by_cases gw : w = (-1)
      · rw [if_pos gw] at h
        obtain ⟨s, U, -, hF, h⟩ := h
        have hU : ∀ k : Nat, k < 81 → U 2 k = W 1 k := fun k hk => by rw [hF.rw 2 (by decide) (by decide)]; exact hV k hk
        have h := jnk_if h
        exact rest _ _ hU h
      · rw [if_neg gw] at h
        obtain ⟨U0, -, hF0, h⟩ := h
        obtain ⟨s, U, -, hF, h⟩ := h
        have hU : ∀ k : Nat, k < 81 → U 2 k = W 1 k := fun k hk => by rw [hF.rw 2 (by decide) (by decide), hF0.rw 2 (by decide) (by decide)]; exact hV k hk
        have h := jnk_if h
        exact rest _ _ hU h
