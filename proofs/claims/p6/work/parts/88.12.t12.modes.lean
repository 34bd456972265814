-- reading: how the reference goes on within a sum (own work)
def fcB (J : Nat → Nat → Int) (Rr : Nat → Nat → Nat) : (((Nat → Nat → Int) → Int × (Nat → Nat → Int) → Prop) → (Nat → Nat → Int) → Int × (Nat → Nat → Int) → Prop) :=
  (fun rc51 (V51 : Nat → Nat → Int) => rdb (V51 0 5) fun z52 => fct (0 ≤ z52 ∧ z52 ≤ 220) <| rdb (V51 0 6) fun z53 => fct (0 ≤ z53 ∧ z53 ≤ 220) <| rdb (V51 0 10) fun z54 => fct (0 ≤ z54 ∧ z54 ≤ 220) <| rdb (V51 0 11) fun z55 => fct (0 ≤ z55 ∧ z55 ≤ 220) <| calR (f_m_here V51 J Rr) fun z56 => fct (-1 ≤ z56 ∧ z56 ≤ 255) <| (if ¬ z56 = 91 then calR (f_m_isDigit V51 J Rr) fun z58 => fct (0 ≤ z58 ∧ z58 ≤ 1) <| (if z58 = 0 then calR (f_m_here V51 J Rr) fun z61 => fct (-1 ≤ z61 ∧ z61 ≤ 255) <| calR (f_m_factOf z61) fun z62 => fct (-1 ≤ z62 ∧ z62 ≤ 12) <| (if ¬ z62 = (-1) then calUM 590295810358705652736 V51 (f_m_notes 1 z62 V51 J Rr) fun V64 => rdb (up2 V64 0 5 (z52 + 1)) fun V65 => rtn (1, V65) else calVM 128 V51 (f_m_wrongAt 1 z52 V51 J Rr) fun z66 V66 => fct (0 ≤ z66 ∧ z66 ≤ 0) <| rtn (z66, V66)) else calVM 416 V51 (f_m_readsNumber V51 J Rr) fun z68 V68 => fct (0 ≤ z68 ∧ z68 ≤ 1) <| (if ¬ z68 = 0 then rdb (V68 0 5) fun z71 => fct (0 ≤ z71 ∧ z71 ≤ 220) <| rdb (V68 0 8) fun z72 => calUM 590295810358705652736 V68 (f_m_notes 0 z72 V68 J Rr) fun V73 => rtn (1, V73) else rtn (0, V68))) else calVM 1180591620717411306144 V51 (f_m_opens 14 V51 J Rr) fun z74 V74 => fct (0 ≤ z74 ∧ z74 ≤ 1) <| (if ¬ z74 = 0 then rc51 V74 else rtn (0, V74))))
def smB (z4 : Int) (J : Nat → Nat → Int) (Rr : Nat → Nat → Nat) : (((Nat → Nat → Int) → Int × (Nat → Nat → Int) → Prop) → (Nat → Nat → Int) → Int × (Nat → Nat → Int) → Prop) :=
  (fun rc134 (V134 : Nat → Nat → Int) => rdb (V134 0 5) fun z135 => fct (0 ≤ z135 ∧ z135 ≤ 220) <| rdb (V134 0 6) fun z136 => fct (0 ≤ z136 ∧ z136 ≤ 220) <| rdb (V134 0 10) fun z137 => fct (0 ≤ z137 ∧ z137 ≤ 220) <| rdb (V134 0 11) fun z138 => fct (0 ≤ z138 ∧ z138 ≤ 220) <| calR (f_m_here V134 J Rr) fun z139 => fct (-1 ≤ z139 ∧ z139 ≤ 255) <| calR (f_m_sumSign z139) fun z140 => fct (-1 ≤ z140 ∧ z140 ≤ 6) <| (if z140 = (-1) then calR (f_m_here V134 J Rr) fun z142 => fct (-1 ≤ z142 ∧ z142 ≤ 255) <| (if ¬ z142 = 93 then calR (f_m_hasOpenSum z4 V134 J Rr) fun z144 => fct (0 ≤ z144 ∧ z144 ≤ 1) <| (if z144 = 0 then calUM 590295810358705654784 V134 (f_m_closesSums 1 V134 J Rr) fun V148 => rtn (1, V148) else calVM 128 V134 (f_m_wrongAt 1 z135 V134 J Rr) fun z150 V150 => fct (0 ≤ z150 ∧ z150 ≤ 0) <| rtn (z150, V150)) else calR (f_m_hasOpenSum z4 V134 J Rr) fun z151 => fct (0 ≤ z151 ∧ z151 ≤ 1) <| (if z151 = 0 then calR (f_m_hasOpenSum z4 V134 J Rr) fun z153 => fct (0 ≤ z153 ∧ z153 ≤ 1) <| (if z153 = 0 then calUM 590295810358705654784 V134 (f_m_closesSums 1 V134 J Rr) fun V157 => rtn (1, V157) else calVM 128 V134 (f_m_wrongAt 1 z135 V134 J Rr) fun z159 V159 => fct (0 ≤ z159 ∧ z159 ≤ 0) <| rtn (z159, V159)) else calUM 590295810358705654784 V134 (f_m_closesSums 1 V134 J Rr) fun V162 => rdb (V162 0 5) fun z163 => fct (0 ≤ z163 ∧ z163 ≤ 220) <| rdb (V162 0 6) fun z164 => fct (0 ≤ z164 ∧ z164 ≤ 220) <| rdb (V162 0 10) fun z165 => fct (0 ≤ z165 ∧ z165 ≤ 220) <| rdb (V162 0 11) fun z166 => fct (0 ≤ z166 ∧ z166 ≤ 220) <| rdb (up2 V162 0 11 (z166 - 1)) fun V168 => rdb (V168 0 9) fun z169 => rdb (wr (z169 - 1)) fun z170 => rdb (up2 V168 0 9 z170) fun V171 => rdb (up2 V171 0 5 (z163 + 1)) fun V172 => rc134 V172)) else (if 4 ≤ z140 then calUM 590295810358705654784 V134 (f_m_closesSums 0 V134 J Rr) fun V174 => rdb (V174 0 5) fun z175 => fct (0 ≤ z175 ∧ z175 ≤ 220) <| rdb (V174 0 6) fun z176 => fct (0 ≤ z176 ∧ z176 ≤ 220) <| rdb (V174 0 10) fun z177 => fct (0 ≤ z177 ∧ z177 ≤ 220) <| rdb (V174 0 11) fun z178 => fct (0 ≤ z178 ∧ z178 ≤ 220) <| rdb (up2 V174 6 z178.toNat (1048576 * z140)) fun V179 => rdb (up2 V179 0 11 (z178 + 1)) fun V180 => rdb (up2 V180 0 5 (z175 + 1)) fun V181 => calVM 1770887431076116959136 V181 (f_m_readsFactor V181 J Rr) fun z183 V183 => fct (0 ≤ z183 ∧ z183 ≤ 1) <| (if ¬ z183 = 0 then rc134 V183 else rtn (0, V183)) else calUM 590295810358705654784 V134 (f_m_closesSums 1 V134 J Rr) fun V186 => rdb (V186 0 5) fun z187 => fct (0 ≤ z187 ∧ z187 ≤ 220) <| rdb (V186 0 6) fun z188 => fct (0 ≤ z188 ∧ z188 ≤ 220) <| rdb (V186 0 10) fun z189 => fct (0 ≤ z189 ∧ z189 ≤ 220) <| rdb (V186 0 11) fun z190 => fct (0 ≤ z190 ∧ z190 ≤ 220) <| rdb (up2 V186 6 z190.toNat (1048576 * z140)) fun V191 => rdb (up2 V191 0 11 (z190 + 1)) fun V192 => rdb (up2 V192 0 5 (z187 + 1)) fun V193 => calVM 1770887431076116959136 V193 (f_m_readsFactor V193 J Rr) fun z195 V195 => fct (0 ≤ z195 ∧ z195 ≤ 1) <| (if ¬ z195 = 0 then rc134 V195 else rtn (0, V195)))))
/-- the sum goes on from its loop's head -/
def RB (z4 : Int) (J : Nat → Nat → Int) (R : Nat → Nat → Nat) (W : Nat → Nat → Int) (r : Int × (Nat → Nat → Int)) : Prop := ∃ n : Nat, lop1 n (smB z4 J R) W r
/-- the sum goes on with a factor -/
def RA (z4 : Int) (J : Nat → Nat → Int) (R : Nat → Nat → Nat) (W : Nat → Nat → Int) (r : Int × (Nat → Nat → Int)) : Prop := ∃ (n : Nat) (z : Int) (U : Nat → Nat → Int), lop1 n (fcB J R) W (z, U) ∧ (0 ≤ z ∧ z ≤ 1) ∧ (z = 0 → r = (0, U)) ∧ (z = 1 → RB z4 J R U r)
/-- a word is laid on the stack, a sign is passed -/
def pshd (W : Nat → Nat → Int) (s : Int) : Nat → Nat → Int := up2 (up2 (up2 W 6 (W 0 11).toNat (1048576 * s)) 0 11 (W 0 11 + 1)) 0 5 (W 0 5 + 1)
/-- a bracket is begun -/
def opnd (W : Nat → Nat → Int) (x : Int) : Nat → Nat → Int := up2 (up2 (up2 (up2 W 0 9 (W 0 9 + 1)) 6 (W 0 11).toNat (1048576 * x)) 0 11 (W 0 11 + 1)) 0 5 (W 0 5 + 1)
/-- a bracket is ended -/
def clsd (W : Nat → Nat → Int) : Nat → Nat → Int := up2 (up2 (up2 W 0 11 (W 0 11 - 1)) 0 9 (W 0 9 - 1)) 0 5 (W 0 5 + 1)
/-- a word is noted -/
def nted (W : Nat → Nat → Int) (w : Int) : Nat → Nat → Int := up2 (up2 W 5 (W 0 10).toNat w) 0 10 (W 0 10 + 1)
theorem q_readsSum {W J : Nat → Nat → Int} {R : Nat → Nat → Nat} {r : Int × (Nat → Nat → Int)} (h : f_m_readsSum W J R r) : RA (W 0 11) J R W r := by
  unfold f_m_readsSum at h
  obtain ⟨z1, -, -, h⟩ := rdb_g h
  obtain ⟨z2, -, -, h⟩ := rdb_g h
  obtain ⟨z3, -, -, h⟩ := rdb_g h
  obtain ⟨z4, e4, -, h⟩ := rdb_g h
  obtain ⟨z5, V5, h5, -, r5, h⟩ := h
  subst e4
  by_cases g : z5 = 0
  · rw [if_neg (fun hh => hh g)] at h
    exact ⟨_, z5, V5, h5, r5, fun _ => h, fun h1 => by omega⟩
  · rw [if_pos g] at h
    exact ⟨_, z5, V5, h5, r5, fun h0 => absurd h0 g, fun _ => ⟨_, h⟩⟩
theorem RA.opn {z4 : Int} {W J : Nat → Nat → Int} {R : Nat → Nat → Nat} {r : Int × (Nat → Nat → Int)} (h : RA z4 J R W r) (hs : sgnZ W = 91) (ho : 0 ≤ W 0 9 ∧ W 0 9 ≤ 6) : (W 0 9 = 6 ∧ ∃ X : Nat → Nat → Int, r = (0, X) ∧ X 0 7 = -5000 - W 0 5) ∨ (¬ W 0 9 = 6 ∧ RA z4 J R (opnd W 14) r) := by
  obtain ⟨n, z, U, h, hr, h0, h1⟩ := h
  cases n with
  | zero => exact False.elim h
  | succ n =>
    have h : fcB J R (lop1 n (fcB J R)) W (z, U) := h
    unfold fcB at h
    obtain ⟨z52, -, -, h⟩ := rdb_g h
    obtain ⟨z53, -, -, h⟩ := rdb_g h
    obtain ⟨z54, -, -, h⟩ := rdb_g h
    obtain ⟨z55, -, -, h⟩ := rdb_g h
    obtain ⟨s, hh, -, h⟩ := h
    have hh := q_here hh
    rw [if_neg (fun hq => hq (by omega))] at h
    obtain ⟨y, Y, hy, -, -, h⟩ := h
    rcases q_opens hy ho with ⟨k1, k2, k3⟩ | ⟨k1, k2, k3⟩
    · rw [if_neg (fun hq => hq k2)] at h
      simp only [rtn, Prod.mk.injEq] at h
      refine Or.inl ⟨k1, U, h0 h.1, ?_⟩
      rw [h.2, k3, up2_s]
    · rw [if_pos (by omega)] at h
      exact Or.inr ⟨k1, n, z, U, by rw [k3] at h; exact h, hr, h0, h1⟩
theorem RA.one {z4 : Int} {W J : Nat → Nat → Int} {R : Nat → Nat → Nat} {r : Int × (Nat → Nat → Int)} (h : RA z4 J R W r) (hs : ¬ sgnZ W = 91) (hp : 0 ≤ W 0 5 ∧ W 0 5 ≤ 200) :
    ((48 ≤ sgnZ W ∧ sgnZ W ≤ 57) ∧ ∃ (c : Int) (X : Nat → Nat → Int), f_m_readsNumber W J R (c, X) ∧ (c = 0 → r = (0, X)) ∧ (c = 1 → RB z4 J R (nted X (1048576 * 0 + X 0 8)) r)) ∨
    (¬ (48 ≤ sgnZ W ∧ sgnZ W ≤ 57) ∧ ((isL (sgnZ W) ∧ ∃ z : Int, ltr z (sgnZ W) ∧ RB z4 J R (up2 (nted W (1048576 * 1 + z)) 0 5 (W 0 5 + 1)) r) ∨ (¬ isL (sgnZ W) ∧ ∃ X : Nat → Nat → Int, r = (0, X) ∧ X 0 7 = -1000 - W 0 5))) := by
  obtain ⟨n, z, U, h, hr, h0, h1⟩ := h
  cases n with
  | zero => exact False.elim h
  | succ n =>
    have h : fcB J R (lop1 n (fcB J R)) W (z, U) := h
    unfold fcB at h
    obtain ⟨z52, e52, -, h⟩ := rdb_g h
    obtain ⟨z53, -, -, h⟩ := rdb_g h
    obtain ⟨z54, -, -, h⟩ := rdb_g h
    obtain ⟨z55, -, -, h⟩ := rdb_g h
    obtain ⟨s, hh, -, h⟩ := h
    have hh := q_here hh
    rw [if_pos (by omega)] at h
    obtain ⟨d, hd, -, h⟩ := h
    have hd := q_mDigit hd
    by_cases g : d = 0
    · rw [if_pos g] at h
      refine Or.inr ⟨hd.off g, ?_⟩
      obtain ⟨s2, hs2, -, h⟩ := h
      have hs2 := q_here hs2
      subst hs2
      obtain ⟨y, hy, -, h⟩ := h
      rcases q_factOf hy with ⟨k1, k2⟩ | ⟨k1, k2⟩
      · have kb := (ltr_fc k1).1
        rw [if_pos (by omega)] at h
        obtain ⟨Y, hY, -, h⟩ := h
        obtain ⟨Y2, eY2, h⟩ := rdb_g h
        simp only [rtn, Prod.mk.injEq] at h
        refine Or.inl ⟨k2, y, k1, ?_⟩
        have := h1 h.1
        rw [h.2, ← eY2, q_notes hY, ← e52] at this
        exact this
      · rw [if_neg (fun hq => hq k1)] at h
        obtain ⟨q, Y, hY, -, -, h⟩ := h
        simp only [rtn, Prod.mk.injEq] at h
        obtain ⟨k3, k4⟩ := q_wrong hY (by decide) (by omega)
        refine Or.inr ⟨k2, U, h0 (by omega), ?_⟩
        rw [h.2, k4, up2_s]
        omega
    · rw [if_neg g] at h
      refine Or.inl ⟨hd.on g, ?_⟩
      obtain ⟨c, X, hX, -, cr, h⟩ := h
      by_cases g2 : c = 0
      · rw [if_neg (fun hq => hq g2)] at h
        simp only [rtn, Prod.mk.injEq] at h
        exact ⟨c, X, hX, fun _ => by rw [← h.2]; exact h0 h.1, fun hc => by omega⟩
      · rw [if_pos g2] at h
        obtain ⟨z71, -, -, h⟩ := rdb_g h
        obtain ⟨z72, e72, h⟩ := rdb_g h
        obtain ⟨Y, hY, -, h⟩ := h
        simp only [rtn, Prod.mk.injEq] at h
        refine ⟨c, X, hX, fun hc => absurd hc g2, fun _ => ?_⟩
        have := h1 h.1
        rw [h.2, q_notes hY, ← e72] at this
        exact this
theorem RB.sg {z4 : Int} {W J : Nat → Nat → Int} {R : Nat → Nat → Nat} {r : Int × (Nat → Nat → Int)} (h : RB z4 J R W r) (hz4 : 0 ≤ z4) (ho : 0 ≤ W 0 9 ∧ W 0 9 ≤ 6) (hp : 0 ≤ W 0 5 ∧ W 0 5 ≤ 200) : ∃ s : Int, f_m_sumSign (sgnZ W) s ∧
    ((4 ≤ s ∧ s ≤ 6 ∧ ∃ X : Nat → Nat → Int, (∃ n : Nat, lop1 n (clB 0 J R) W X) ∧ RA z4 J R (pshd X s) r) ∨
     ((s = 2 ∨ s = 3) ∧ ∃ X : Nat → Nat → Int, (∃ n : Nat, lop1 n (clB 1 J R) W X) ∧ RA z4 J R (pshd X s) r) ∨
     (s = -1 ∧ ((sgnZ W = 93 ∧ (∃ j : Nat, z4 ≤ j ∧ (j : Int) < W 0 11 ∧ iDiv (W 6 j) 1048576 = 14) ∧ ∃ X : Nat → Nat → Int, (∃ n : Nat, lop1 n (clB 1 J R) W X) ∧ ((0 ≤ X 0 9 ∧ X 0 9 ≤ 6) → RB z4 J R (clsd X) r)) ∨
       ((∀ j : Nat, z4 ≤ j → (j : Int) < W 0 11 → ¬ iDiv (W 6 j) 1048576 = 14) ∧ ∃ X : Nat → Nat → Int, (∃ n : Nat, lop1 n (clB 1 J R) W X) ∧ r = (1, X)) ∨
       (¬ sgnZ W = 93 ∧ (∃ j : Nat, z4 ≤ j ∧ (j : Int) < W 0 11 ∧ iDiv (W 6 j) 1048576 = 14) ∧ ∃ X : Nat → Nat → Int, r = (0, X) ∧ X 0 7 = -1000 - W 0 5)))) := by
  obtain ⟨n, h⟩ := h
  cases n with
  | zero => exact False.elim h
  | succ n =>
    have h : smB z4 J R (lop1 n (smB z4 J R)) W r := h
    unfold smB at h
    obtain ⟨z135, e135, -, h⟩ := rdb_g h
    obtain ⟨z136, -, -, h⟩ := rdb_g h
    obtain ⟨z137, -, -, h⟩ := rdb_g h
    obtain ⟨z138, -, -, h⟩ := rdb_g h
    obtain ⟨c, hc, -, h⟩ := h
    have hc := q_here hc
    subst hc
    obtain ⟨s, hs, sr, h⟩ := h
    have hss := q_sumSign hs
    refine ⟨s, hs, ?_⟩
    have raf : ∀ (X : Nat → Nat → Int) (q : Int) (Y : Nat → Nat → Int), f_m_readsFactor X J R (q, Y) → (0 ≤ q ∧ q ≤ 1) → (q = 0 → r = (0, Y)) → (¬ q = 0 → lop1 n (smB z4 J R) Y r) → RA z4 J R X r := fun X q Y h1 h2 h3 h4 => ⟨_, q, Y, h1, h2, h3, fun hq => ⟨n, h4 (by omega)⟩⟩
    by_cases g : s = -1
    · rw [if_pos g] at h
      refine Or.inr (Or.inr ⟨g, ?_⟩)
      obtain ⟨c2, hc2, -, h⟩ := h
      have hc2 := q_here hc2
      subst hc2
      by_cases g93 : sgnZ W = 93
      · rw [if_neg (fun hq => hq g93)] at h
        obtain ⟨o, hoo, -, h⟩ := h
        rcases q_hasOpen hoo hz4 with ⟨k1, k2⟩ | ⟨k1, k2⟩
        · rw [if_neg (by omega)] at h
          obtain ⟨X, hX, -, h⟩ := h
          obtain ⟨z163, e163, -, h⟩ := rdb_g h
          obtain ⟨z164, -, -, h⟩ := rdb_g h
          obtain ⟨z165, -, -, h⟩ := rdb_g h
          obtain ⟨z166, e166, -, h⟩ := rdb_g h
          obtain ⟨V168, e168, h⟩ := rdb_g h
          obtain ⟨z169, e169, h⟩ := rdb_g h
          obtain ⟨z170, e170, h⟩ := rdb_g h
          obtain ⟨V171, e171, h⟩ := rdb_g h
          obtain ⟨V172, e172, h⟩ := rdb_g h
          refine Or.inl ⟨g93, k2, X, ⟨_, hX⟩, fun hx9 => ⟨n, ?_⟩⟩
          have e9 : z169 = X 0 9 := by rw [← e169, ← e168, up2_n _ _ (Or.inr (by decide))]
          rw [e9, wr_id ⟨by omega, by omega⟩] at e170
          have : V172 = clsd X := by rw [← e172, ← e171, ← e168, ← e170, ← e166, ← e163]; rfl
          rw [← this]
          exact h
        · rw [if_pos k1] at h
          obtain ⟨o2, hoo2, -, h⟩ := h
          rcases q_hasOpen hoo2 hz4 with ⟨l1, j, l2, l3, l4⟩ | ⟨l1, l2⟩
          · exact absurd l4 (k2 j l2 l3)
          · rw [if_pos l1] at h
            obtain ⟨X, hX, -, h⟩ := h
            exact Or.inr (Or.inl ⟨k2, X, ⟨_, hX⟩, h⟩)
      · rw [if_pos g93] at h
        obtain ⟨o, hoo, -, h⟩ := h
        rcases q_hasOpen hoo hz4 with ⟨k1, k2⟩ | ⟨k1, k2⟩
        · rw [if_neg (by omega)] at h
          obtain ⟨q, Y, hY, -, -, h⟩ := h
          obtain ⟨k3, k4⟩ := q_wrong hY (by decide) (by omega)
          refine Or.inr (Or.inr ⟨g93, k2, Y, ?_, ?_⟩)
          · have h : r = (q, Y) := h
            rw [h, k3]
          · rw [k4, up2_s]; omega
        · rw [if_pos k1] at h
          obtain ⟨X, hX, -, h⟩ := h
          exact Or.inr (Or.inl ⟨k2, X, ⟨_, hX⟩, h⟩)
    · rw [if_neg g] at h
      by_cases g4 : 4 ≤ s
      · rw [if_pos g4] at h
        obtain ⟨X, hX, -, h⟩ := h
        obtain ⟨z175, e175, -, h⟩ := rdb_g h
        obtain ⟨z176, -, -, h⟩ := rdb_g h
        obtain ⟨z177, -, -, h⟩ := rdb_g h
        obtain ⟨z178, e178, -, h⟩ := rdb_g h
        obtain ⟨V179, e179, h⟩ := rdb_g h
        obtain ⟨V180, e180, h⟩ := rdb_g h
        obtain ⟨V181, e181, h⟩ := rdb_g h
        obtain ⟨q, Y, hY, -, qr, h⟩ := h
        refine Or.inl ⟨g4, by omega, X, ⟨_, hX⟩, ?_⟩
        have : V181 = pshd X s := by rw [← e181, ← e180, ← e179, ← e178, ← e175]; rfl
        rw [← this]
        refine raf V181 q Y hY qr (fun hq => ?_) (fun hq => ?_)
        · rw [if_neg (fun hh => hh hq)] at h; exact h
        · rw [if_pos hq] at h; exact h
      · rw [if_neg g4] at h
        obtain ⟨X, hX, -, h⟩ := h
        obtain ⟨z187, e187, -, h⟩ := rdb_g h
        obtain ⟨z188, -, -, h⟩ := rdb_g h
        obtain ⟨z189, -, -, h⟩ := rdb_g h
        obtain ⟨z190, e190, -, h⟩ := rdb_g h
        obtain ⟨V191, e191, h⟩ := rdb_g h
        obtain ⟨V192, e192, h⟩ := rdb_g h
        obtain ⟨V193, e193, h⟩ := rdb_g h
        obtain ⟨q, Y, hY, -, qr, h⟩ := h
        refine Or.inr (Or.inl ⟨by omega, X, ⟨_, hX⟩, ?_⟩)
        have : V193 = pshd X s := by rw [← e193, ← e192, ← e191, ← e190, ← e187]; rfl
        rw [← this]
        refine raf V193 q Y hY qr (fun hq => ?_) (fun hq => ?_)
        · rw [if_neg (fun hh => hh hq)] at h; exact h
        · rw [if_pos hq] at h; exact h
