section
-- how long each lasts, one behind the other (own work)
theorem RLq.cg {b l : Nat} {V V2 : Nat → Nat → Int} {N N2 : Nat → Int} (h : RLq b l V N) (hl : l < 4) (hV : ∀ i : Nat, b < i → i ≤ b + 18 → V2 i = V i) (hN : ∀ k : Nat, k < 79 → N2 k = N k) (h2 : V2 b 2 = V b 2) (h3 : V2 b 3 = N2 79) (h4 : V2 b 4 = N2 80) (h79 : 0 ≤ N2 79) (h80 : 0 ≤ N2 80 ∧ N2 80 ≤ 65535) : RLq b l V2 N2 := by
  obtain ⟨a1, a2, a3, a4, a5, a6, a7, a8, a9, a10⟩ := h
  exact ⟨a1.cg (hV _ (by omega) (by omega)) (hV _ (by omega) (by omega)) (fun j hj => hN j (by omega)) (by rw [hN 76 (by decide)]) (by rw [hN 77 (by decide)]), fun p hp => (a2 p hp).cg (hV _ (by omega) (by omega)) (fun j hj => hN j (by omega)) (hN 78 (by decide)), by rw [h2, hN 78 (by decide)]; exact a3, h3, h4, by rw [hN 76 (by decide)]; exact a6, by rw [hN 77 (by decide)]; exact a7, by rw [hN 78 (by decide)]; exact a8, h79, h80⟩
def P9q (V : Nat → Nat → Int) : Prop := (∀ p : Nat, p < 8 → ∀ j : Nat, j < 4 → V (39 + 11 + p) j = V (1 + 11 + p) j) ∧ V 39 2 = V 1 2 ∧ V 39 4 = V 1 4
theorem d_lastsQ {l : Nat} {x a b : Int} {V W J Jm U X : Nat → Nat → Int} {R Rm : Nat → Nat → Nat} (hl : l < 4) (hx0 : 0 ≤ x ∧ x ≤ 24) (h1 : RLz 1 V (W 1)) (h79 : W 1 79 ≤ 9999) (hT : RTx R V W) (hp : P9q V) (h76 : bt (W 1 76) l = 1) (h77 : ¬ bt (W 1 77) l = 1)
    (hx : f_s_lastsWith l x V J R (a, U)) (hm : f_m_lastsWith l x W Jm Rm (b, X)) : a = b ∧ P9q U := by
  unfold f_s_lastsWith at hx
  unfold f_m_lastsWith at hm
  obtain ⟨c, ec, hx⟩ := rdb_g hx
  obtain ⟨s, es, hx⟩ := rdb_g hx
  rw [Int.toNat_natCast] at ec es
  obtain ⟨V3, k3, -, hx⟩ := hx
  obtain ⟨z4, V4, k4, -, hx⟩ := hx
  obtain ⟨z5, e5, hx⟩ := rdb_g hx
  obtain ⟨V6, e6, hx⟩ := rdb_g hx
  obtain ⟨_, -, -, hm⟩ := rdb_g hm
  obtain ⟨_, -, -, hm⟩ := rdb_g hm
  obtain ⟨W3, f3, hm⟩ := rdb_g hm
  obtain ⟨y4, f4, -, hm⟩ := rdb_g hm
  obtain ⟨y5, f5, -, hm⟩ := rdb_g hm
  obtain ⟨y6, k6, hm⟩ := hm
  have k6 := q_min k6
  obtain ⟨W8, f8, hm⟩ := rdb_g hm
  rw [show ((l : Int) + 4).toNat = 4 + l by omega] at f5 f8
  rw [Int.toNat_natCast] at f4
  obtain ⟨c1, c2, c3⟩ := q_copyP1 (c := c) (s := s) (by omega) k3
  have hPl := h1.1 l hl
  rw [es] at hPl
  obtain ⟨p0, p1, p2, p3, p4, p5, p6, p7, p8, p9, p10, p11, p12, p13⟩ := hPl
  obtain ⟨-, u4⟩ := q_sWet k4 (by rw [c2 2 (by decide)]; exact p10) (by rw [c2 1 (by decide)]; exact p9) (by omega)
  rw [c2 1 (by decide), c2 2 (by decide)] at u4
  have w31 : W3 1 = W 1 := by rw [← f3]; exact cpN_n (by decide)
  rw [w31] at f4 f5
  have ew : min (V s 2 + x) (V s 1) = y6 := by rw [k6, ← f4, ← f5, p1, p2, Int.min_comm]
  rw [ew] at u4
  have yr : 0 ≤ y6 ∧ y6 ≤ 24 := by omega
  have v4 : ∀ i : Nat, i ≠ c → V4 i = V3 i := fun i hi => by rw [u4, up2_c _ _ hi]
  have v4c : V4 c = up1 (V3 c) 2 y6 := by rw [u4, up2_row]
  have v6 : ∀ i : Nat, i ≠ 39 → V6 i = V4 i := fun i hi => by rw [← e6, up2_c _ _ hi]
  have v639 : V6 39 = up1 (V4 39) 3 z5 := by rw [← e6, up2_row]
  have o6 : ∀ i : Nat, i ≠ 39 → i ≠ c → i ≠ c + 1 → V6 i = V i := fun i i1 i2 i3 => by rw [v6 i i1, v4 i i2, c1 i i2 i3]
  have o639 : V4 39 = V 39 := by rw [v4 39 (by omega), c1 39 (by omega) (by omega)]
  have ez5 : z5 = W 1 79 := by
    rw [← e5, v4 1 (by omega), c1 1 (by omega) (by omega)]
    exact h1.2.2.2.1
  have x8 : W8 1 = up1 (W 1) (4 + l) y6 := by rw [← f8, up2_row, w31]
  have xo : ∀ k : Nat, k ≠ 4 + l → W8 1 k = W 1 k := fun k hk => by rw [x8, up1_of hk]
  have w8 : ∀ i : Nat, i ≠ 1 → i ≠ 2 → W8 i = W i := fun i i1 i2 => by rw [← f8, up2_c _ _ i1, ← f3]; exact cpN_n i2
  have hR6 : RLq 39 l V6 (W8 1) := by
    obtain ⟨a1, a2, a3, a4, a5, a6, a7, a8, a9, a10⟩ := h1
    refine ⟨?_, fun p hpp => ?_, ?_, ?_, ?_, by rw [xo 76 (by omega)]; exact a6, by rw [xo 77 (by omega)]; exact a7, by rw [xo 78 (by omega)]; exact a8, by rw [xo 79 (by omega)]; exact a9, by rw [xo 80 (by omega)]; exact a10⟩
    · rw [ec]
      have g6 : ∀ j : Nat, j < 8 → j ≠ 2 → V6 c j = V s j := fun j hj j2 => by rw [v6 c (by omega), v4c, up1_of j2, c2 j hj]
      have g62 : V6 c 2 = y6 := by rw [v6 c (by omega), v4c, up1_at]
      unfold RPl dedX
      rw [g6 0 (by decide) (by decide), g6 1 (by decide) (by decide), g62, g6 3 (by decide) (by decide), g6 4 (by decide) (by decide), g6 5 (by decide) (by decide), g6 6 (by decide) (by decide), g6 7 (by decide) (by decide), xo 76 (by omega), xo 77 (by omega), xo l (by omega), xo (8 + l) (by omega), xo (12 + l) (by omega), xo (16 + l) (by omega), xo (20 + l) (by omega), x8, up1_at]
      refine ⟨p0, p1, rfl, p3, p4, p5, fun j hj => ?_, p7, p8, p9, yr, p11, p12, p13⟩
      rw [v6 (c + 1) (by omega), v4 (c + 1) (by omega), c3 j hj, up1_of (by omega)]
      exact p6 j hj
    · have k := a2 p hpp
      have hq2 := hp.1 p hpp
      unfold RPe at k ⊢
      rw [o6 _ (by omega) (by omega) (by omega), hq2 0 (by decide), hq2 1 (by decide), hq2 2 (by decide), hq2 3 (by decide), xo 78 (by omega), xo (52 + p) (by omega), xo (60 + p) (by omega), xo (68 + p) (by omega)]
      exact k
    · rw [v639, up1_of (by decide), o639, hp.2.1, xo 78 (by omega)]; exact a3
    · rw [v639, up1_at, xo 79 (by omega)]; exact ez5
    · rw [v639, up1_of (by decide), o639, hp.2.2, xo 80 (by omega)]; exact a5
  have hT6 : RTx R V6 W8 := hT.cg (fun i i1 i2 i3 => o6 i (by omega) (by omega) (by omega)) (fun i i1 i2 => w8 i (by omega) (by omega))
  have back : ∀ V9 : Nat → Nat → Int, (∀ i : Nat, i ≠ 69 → i ≠ 70 → i ≠ 71 → i ≠ c → i ≠ c + 1 → i ≠ 39 → V9 i = V6 i) → V9 39 2 = V6 39 2 → V9 39 4 = V6 39 4 → P9q V9 := fun V9 g1 g2 g4 => by
    refine ⟨fun p hpp j hj => ?_, ?_, ?_⟩
    · rw [g1 _ (by omega) (by omega) (by omega) (by omega) (by omega) (by omega), g1 (1 + 11 + p) (by omega) (by omega) (by omega) (by omega) (by omega) (by omega), o6 _ (by omega) (by omega) (by omega), o6 (1 + 11 + p) (by omega) (by omega) (by omega)]
      exact hp.1 p hpp j hj
    · rw [g2, g1 1 (by omega) (by omega) (by omega) (by omega) (by omega) (by omega), v639, up1_of (by decide), o639, o6 1 (by omega) (by omega) (by omega)]
      exact hp.2.1
    · rw [g4, g1 1 (by omega) (by omega) (by omega) (by omega) (by omega) (by omega), v639, up1_of (by decide), o639, o6 1 (by omega) (by omega) (by omega)]
      exact hp.2.2
  obtain ⟨bX, hbX, hx9⟩ := lop2_g hx
  obtain ⟨bM, hbM, hm9⟩ := lop2_g hm
  have key : ∀ (n m : Nat) (z : Int) (V9 W9 : Nat → Nat → Int), 0 ≤ z ∧ z ≤ 60 → RLq 39 l V9 (W9 1) → RTx R V9 W9 → W9 1 79 ≤ 9999 + z → bt (W9 1 76) l = 1 → ¬ bt (W9 1 77) l = 1 → (∀ i : Nat, i ≠ 69 → i ≠ 70 → i ≠ 71 → i ≠ c → i ≠ c + 1 → i ≠ 39 → V9 i = V6 i) → V9 39 2 = V6 39 2 → V9 39 4 = V6 39 4 → lop2 n bX z V9 (a, U) → lop2 m bM z W9 (b, X) → a = b ∧ P9q U := by
    intro n
    induction n with
    | zero => intro m z V9 W9 _ _ _ _ _ _ _ _ _ hx; exact False.elim hx
    | succ n ih =>
      intro m z V9 W9 hz r1 r2 r3 r4 r5 g1 g2 g4 hx hm
      cases m with
      | zero => exact False.elim hm
      | succ m =>
        rw [lop2_s hbX] at hx
        rw [lop2_s hbM] at hm
        by_cases g : 60 ≤ z
        · rw [if_pos g] at hx hm
          obtain ⟨_, -, hm⟩ := rdb_g hm
          simp only [rtn, Prod.mk.injEq] at hx hm
          rw [hx.1, hm.1, hx.2]
          exact ⟨by omega, back V9 g1 g2 g4⟩
        · rw [if_neg g] at hx hm
          obtain ⟨V10, k10, -, hx⟩ := hx
          obtain ⟨_, -, -, hm⟩ := rdb_g hm
          obtain ⟨_, -, -, hm⟩ := rdb_g hm
          obtain ⟨W10, j10, -, hm⟩ := hm
          obtain ⟨d1, -, d2, ⟨d3, d4⟩, d5, -⟩ := d_endQ (Or.inr (Or.inr rfl)) hl r1 r2 r4 r5 k10 j10
          rw [ec] at d5
          obtain ⟨z61, e61, hx⟩ := rdb_g hx
          obtain ⟨z62, e62, hx⟩ := rdb_g hx
          obtain ⟨V11, e11, hx⟩ := rdb_g hx
          obtain ⟨z64, k64, -, hx⟩ := hx
          obtain ⟨y11, k11, -, hm⟩ := hm
          have q64 := q_sDead k64
          have q11 := q_mLives k11
          have v11c : V11 c = V10 c := by rw [← e11, up2_c _ _ (by omega)]
          have v11o : ∀ i : Nat, i ≠ 39 → V11 i = V10 i := fun i hi => by rw [← e11, up2_c _ _ hi]
          have v1139 : V11 39 = up1 (V10 39) 3 z62 := by rw [← e11, up2_row]
          have v1039 : V10 39 = V9 39 := d5 39 (by omega) (by omega) (by omega) (by omega) (by omega)
          have g1' : ∀ i : Nat, i ≠ 69 → i ≠ 70 → i ≠ 71 → i ≠ c → i ≠ c + 1 → i ≠ 39 → V11 i = V6 i := fun i i1 i2 i3 i4 i5 i6 => by rw [v11o i i6, d5 i i1 i2 i3 i4 i5, g1 i i1 i2 i3 i4 i5 i6]
          have g2' : V11 39 2 = V6 39 2 := by rw [v1139, up1_of (by decide), v1039, g2]
          have g4' : V11 39 4 = V6 39 4 := by rw [v1139, up1_of (by decide), v1039, g4]
          have hd := d1.1
          rw [ec] at hd
          have hd8 := hd.2.2.2.2.2.2.2.2.1
          have hd0 : bt (W10 1 76) l = V10 c 0 := hd.1.symm
          rw [v11c] at q64
          have c0 : V10 c 0 = bt (W10 1 76) l := hd.1
          have t76 : bt (W10 1 76) l = 1 := by
            have e1 : bt (W9 1 76) l = V9 c 0 := by
              have k := r1.1.1
              rw [ec] at k
              exact k.symm
            have e2 : W10 1 76 = W9 1 76 := by
              rcases (show l = 0 ∨ l = 1 ∨ l = 2 ∨ l = 3 by omega) with rfl | rfl | rfl | rfl <;> exact k_dries (by decide) j10 76 (by decide) (by decide)
            rw [e2]
            exact r4
          by_cases gd : dedX (V10 c)
          · have e64 : z64 = 1 := by
              rcases q64 with ⟨q, -⟩ | ⟨-, q⟩
              · exact q
              · exact absurd gd q
            have e11' : y11 = 0 := by
              rcases q11 with ⟨-, q⟩ | ⟨q, -⟩
              · exact absurd (hd8.mpr gd) q.2
              · exact q
            rw [if_neg (by omega)] at hx
            rw [if_neg (fun hh => hh e11')] at hm
            obtain ⟨_, -, hm⟩ := rdb_g hm
            simp only [rtn, Prod.mk.injEq] at hx hm
            rw [hx.1, hm.1, hx.2]
            exact ⟨rfl, back V11 g1' g2' g4'⟩
          · have e64 : z64 = 0 := by
              rcases q64 with ⟨-, q⟩ | ⟨q, -⟩
              · exact absurd q gd
              · exact q
            have n77 : ¬ bt (W10 1 77) l = 1 := fun hh => gd (hd8.mp hh)
            have e11' : ¬ y11 = 0 := by
              rcases q11 with ⟨q, -⟩ | ⟨-, q⟩
              · omega
              · exact absurd ⟨⟨by omega, by omega, t76⟩, n77⟩ q
            rw [if_pos e64] at hx
            rw [if_pos e11'] at hm
            obtain ⟨_, -, -, hm⟩ := rdb_g hm
            obtain ⟨_, -, -, hm⟩ := rdb_g hm
            obtain ⟨y16, f16, hm⟩ := rdb_g hm
            obtain ⟨y17, f17, hm⟩ := rdb_g hm
            obtain ⟨W18, f18, hm⟩ := rdb_g hm
            have h0 := d1.2.2.2.2.2.2.2.2.1
            have hw : wr (W10 1 79 + 1) = W10 1 79 + 1 := wr_id ⟨by omega, by omega⟩
            have ey17 : y17 = W10 1 79 + 1 := by rw [← f17, ← f16]; exact hw
            have ez62 : z62 = y17 := by
              rw [← e62, ← e61, ey17, d1.2.2.2.1]
              exact hw
            have w18 : ∀ i : Nat, i ≠ 1 → W18 i = W10 i := fun i hi => by rw [← f18, up2_c _ _ hi]
            have w181 : W18 1 = up1 (W10 1) 79 y17 := by rw [← f18, up2_row]
            have w18o : ∀ k : Nat, k ≠ 79 → W18 1 k = W10 1 k := fun k hk => by rw [w181, up1_of hk]
            have w1879 : W18 1 79 = y17 := by rw [w181, up1_at]
            refine ih m (z + 1) V11 W18 (by omega) ?_ (d2.cg (fun i i1 i2 i3 => v11o i (by omega)) (fun i i1 i2 => w18 i (by omega))) (by rw [w1879]; omega) (by rw [w18o 76 (by decide)]; exact t76) (by rw [w18o 77 (by decide)]; exact n77) g1' g2' g4' hx hm
            refine d1.cg hl (fun i i1 i2 => v11o i (by omega)) (fun k hk => w18o k (by omega)) (by rw [v1139, up1_of (by decide)]) (by rw [v1139, up1_at, w1879]; exact ez62) (by rw [v1139, up1_of (by decide), w18o 80 (by decide)]; exact d1.2.2.2.2.1) (by rw [w1879]; omega) (by rw [w18o 80 (by decide)]; exact d1.2.2.2.2.2.2.2.2.2)
  have r86 : bt (W8 1 76) l = 1 := by rw [xo 76 (by omega)]; exact h76
  have r87 : ¬ bt (W8 1 77) l = 1 := by rw [xo 77 (by omega)]; exact h77
  exact key _ _ 0 V6 W8 (by omega) hR6 hT6 (by rw [xo 79 (by omega)]; omega) r86 r87 (fun i _ _ _ _ _ _ => rfl) rfl rfl hx9 hm9
end
section
section XG
variable {p : Program} {l : Launch} {e : Env} {R : Room} {s : State} {m : MethodId} {args : Array Value} {below : List Frame} {meth : Method} {c : Code} {cells slots : Nat} {Q : State → Prop}
variable {D : va_G} {A : Nat → Prop} {H0 : Heap} {nL : Nat} {ws : va_W} {pc : Nat} {lv : List (Nat × Value)} {st : List Value} {cc : ByteArray} {own : String} {cy : Nat → ClassId}
theorem x_lw {ws2 : va_W} (h : ws = ws2) (k : xW p l e R s m args below meth c D A H0 nL cells slots Q ws2 pc lv st) : xW p l e R s m args below meth c D A H0 nL cells slots Q ws pc lv st := by subst h; exact k
theorem x_gobj (C : xC2 p s m args meth c D A H0 nL cc own (xTY cy)) {index : Nat} {a : Nat} (hlink : Cond.methodLink own index objectInit ∈ WG) (hd : decode cc pc = .ok (.invokespecial index, 3)) (hf : 1 ≤ R.frames) (hlo : (st.map fun v => v.category).sum + 12 ≤ R.locals) (k : xW p l e R s m args below meth c D A H0 nL cells slots Q ws (pc + 3) lv st) : xW p l e R s m args below meth c D A H0 nL cells slots Q ws pc lv (.ref a :: st) := by
  intro H locs la hP hD hS hl
  refine W.objInit C.1.1 C.1.2.1 C.1.2.2.2.1 (C.1.2.2.2.2.1 _ hlink) (C.1.2.2.2.2.1 _ wi_objectInit) (C.1.2.2.2.2.1 _ wm_objectInit) rfl (by rw [C.1.2.2.1]; exact hl.1) rfl hd hf (by show 2 * 0 + _ + 12 ≤ _; omega) ?_
  exact k H locs la hP hD hS hl
theorem x_gget (C : xC2 p s m args meth c D A H0 nL cc own (xTY cy)) {a : Nat} {ci : Nat} {fs : List Value} (q0 : Nat) (he : ws[q0]? = some (a, .inr (ci, fs))) {Cn : String} {T : u_T} {NN index : Nat} (hc : vwCl[ci]? = some (Cn, T, NN)) (hin : ∀ w ∈ u_ws Cn T NN, w ∈ WG) (k : Nat) (hk : k < NN) (hw : Cond.fieldLink own index (T k).1 (T k).2.1 (T k).2.2.1 ∈ WG) {v : Value} (hv : fs[k]? = some v) (hd : decode cc pc = .ok (.getfield index, 3)) (kk : xW p l e R s m args below meth c D A H0 nL cells slots Q ws (pc + 3) lv (v :: st)) : xW p l e R s m args below meth c D A H0 nL cells slots Q ws pc lv (.ref a :: st) :=
  fun H locs la hP hD hS hl => va_get C.1.1 C.1.2.1 C.1.2.2.2.2.1 hin C.1.2.2.2.1 C.1.2.2.2.2.2.1 hP q0 he hc k hk (C.1.2.2.2.2.1 _ hw) (fun _ h => h) hv hd (kk H locs la hP hD hS hl)
theorem x_gput (C : xC2 p s m args meth c D A H0 nL cc own (xTY cy)) {a : Nat} {ci : Nat} {fs : List Value} (q0 : Nat) (he : ws[q0]? = some (a, .inr (ci, fs))) {Cn : String} {T : u_T} {NN index : Nat} (hc : vwCl[ci]? = some (Cn, T, NN)) (hin : ∀ w ∈ u_ws Cn T NN, w ∈ WG) (k : Nat) (hk : k < NN) (hw : Cond.fieldLink own index (T k).1 (T k).2.1 (T k).2.2.1 ∈ WG) (ty0 : Nat → FieldType) (hty : ∀ k, k < NN → parseFieldDescriptor (T k).2.2.1 = some (ty0 k)) (hnm : ∀ a, a < NN → ∀ b, b < NN → a ≠ b → (T a).2.1 ≠ (T b).2.1) (hfin : (T k).2.2.2 = false) {ty : FieldType} (hpd : parseFieldDescriptor (T k).2.2.1 = some ty) {v : Value} (hnar : narrow ty v = v) (hfit : fits ty v = true) (hl : k < fs.length) (hd : decode cc pc = .ok (.putfield index, 3)) {ws2 : va_W} (hws : ws.set q0 (a, .inr (ci, fs.set k v)) = ws2) (kk : xW p l e R s m args below meth c D A H0 nL cells slots Q ws2 (pc + 3) lv st) : xW p l e R s m args below meth c D A H0 nL cells slots Q ws pc lv (v :: .ref a :: st) := by
  intro H locs la hP hD hS hlv
  refine va_put C.1.1 C.1.2.1 C.1.2.2.2.2.1 hin ty0 hty hnm C.1.2.2.2.1 C.1.2.2.2.2.2.1 hP hD hS q0 he hc k hk (C.1.2.2.2.2.1 _ hw) (fun _ h => h) hfin hpd hnar hfit hl hd (fun H1 locs1 hP1 hD1 hS1 => ?_)
  rw [hws] at hP1 hD1
  exact kk H1 locs1 la hP1 hD1 hS1 hlv
theorem x_gputF (C : xC2 p s m args meth c D A H0 nL cc own (xTY cy)) {a : Nat} {ci : Nat} {fs : List Value} (q0 : Nat) (he : ws[q0]? = some (a, .inr (ci, fs))) {Cn : String} {T : u_T} {NN index : Nat} (hc : vwCl[ci]? = some (Cn, T, NN)) (hin : ∀ w ∈ u_ws Cn T NN, w ∈ WG) (k : Nat) (hk : k < NN) (hw : Cond.fieldLink own index (T k).1 (T k).2.1 (T k).2.2.1 ∈ WG) (ty0 : Nat → FieldType) (hty : ∀ k, k < NN → parseFieldDescriptor (T k).2.2.1 = some (ty0 k)) (hnm : ∀ a, a < NN → ∀ b, b < NN → a ≠ b → (T a).2.1 ≠ (T b).2.1) (hfin : (T k).2.2.2 = true) (hin2 : meth.name = "<init>") (hdecl : (T k).1 = own) {ty : FieldType} (hpd : parseFieldDescriptor (T k).2.2.1 = some ty) {v : Value} (hnar : narrow ty v = v) (hfit : fits ty v = true) (hl : k < fs.length) (hd : decode cc pc = .ok (.putfield index, 3)) {ws2 : va_W} (hws : ws.set q0 (a, .inr (ci, fs.set k v)) = ws2) (kk : xW p l e R s m args below meth c D A H0 nL cells slots Q ws2 (pc + 3) lv st) : xW p l e R s m args below meth c D A H0 nL cells slots Q ws pc lv (v :: .ref a :: st) := by
  intro H locs la hP hD hS hlv
  refine va_putF C.1.1 C.1.2.1 C.1.2.2.2.2.1 hin ty0 hty hnm C.1.2.2.2.1 C.1.2.2.2.2.2.1 hP hD hS q0 he hc k hk (C.1.2.2.2.2.1 _ hw) (fun _ h => h) hfin hin2 hdecl hpd hnar hfit hl hd (fun H1 locs1 hP1 hD1 hS1 => ?_)
  rw [hws] at hP1 hD1
  exact kk H1 locs1 la hP1 hD1 hS1 hlv
theorem x_gnew (C : xC2 p s m args meth c D A H0 nL cc own (xTY cy)) {Cn : String} {T : u_T} {NN ci index : Nat} (hcl : Cond.classLink own index Cn ∈ WG) (hinst : Cond.instantiable Cn NN ∈ WG) (hini : Cond.initialized Cn ∈ WG) (hin : ∀ w ∈ u_ws Cn T NN, w ∈ WG) (ty : Nat → FieldType) (hty : ∀ k, k < NN → parseFieldDescriptor (T k).2.2.1 = some (ty k)) (hc : vwCl[ci]? = some (Cn, T, NN)) {fs : List Value} (hfs : ∀ j, j < NN → defaultValue (ty j) = vp_V fs j) (hcells : cells + 1 ≤ R.cells) (hslots : slots + NN ≤ R.slots) (hd : decode cc pc = .ok (.new index, 3)) {ws2 : Nat → va_W} (hws : ∀ q, ws ++ [(q, .inr (ci, fs))] = ws2 q) (kk : ∀ q : Nat, xW p l e R s m args below meth c D A H0 nL (cells + 1) (slots + NN) Q (ws2 q) (pc + 3) lv (.ref q :: st)) : xW p l e R s m args below meth c D A H0 nL cells slots Q ws pc lv st := by
  intro H locs la hP hD hS hl
  refine va_new C.1.1 C.1.2.1 C.1.2.2.2.2.1 hin ty hty C.1.2.2.2.1 (C.1.2.2.2.2.1 _ hcl) (C.1.2.2.2.2.1 _ hinst) (C.1.2.2.2.2.1 _ hini) C.1.2.2.2.2.2.1 hP hD hS C.1.2.2.2.2.2.2.1 hc hfs hcells hslots hd (fun q H1 hP1 hD1 hS1 => ?_)
  rw [hws] at hP1 hD1
  exact kk q H1 locs la hP1 hD1 hS1 hl
theorem x_gnewa (C : xC2 p s m args meth c D A H0 nL cc own (xTY cy)) {atype : ArrayType} {ty : FieldType} (hty : newarray.typeOf atype = ty) (hwd : Cond.arrayClass ty ∈ WG) {t : Nat} (ht : (xTY cy)[t]? = some (cy t, ty)) (hprim : ∀ (U : State) (cA : ClassId), va_RA U cA ty → U.vm.findClass ("[" ++ ty.toString) = some cA) {N' : Nat} {a0 : vp_A} (ha : ∀ cA : ClassId, vp_cell cA a0 = arrV cA N' (fun _ => defaultValue ty)) (hN : N' < 2147483648) (hbytes : N' * componentBytes ty ≤ 536870912) (hcells : cells + 1 ≤ R.cells) (hslots : slots + N' ≤ R.slots) (hd : decode cc pc = .ok (.newarray atype, 2)) {ws2 : Nat → va_W} (hws : ∀ q, ws ++ [(q, .inl (cy t, a0))] = ws2 q) (kk : ∀ q : Nat, xW p l e R s m args below meth c D A H0 nL (cells + 1) (slots + N') Q (ws2 q) (pc + 2) lv (.ref q :: st)) : xW p l e R s m args below meth c D A H0 nL cells slots Q ws pc lv (vI (N' : Int) :: st) := by
  intro H locs la hP hD hS hl
  have r : R32 (N' : Int) := ⟨by omega, by omega⟩
  subst hty
  refine va_newa C.1.1 C.1.2.1 (C.1.2.2.2.2.1 _ hwd) rfl C.1.2.2.2.2.2.1 hP hD hS C.1.2.2.2.2.2.2.1 ha (fun h => by have := (xi_lt (b := 0) r (by decide)).mp h; omega) (by rw [xi_nat r]; omega) hbytes hcells hslots hd (fun q cA H1 hK1 hP1 hD1 hS1 => ?_)
  have e1 := hprim _ _ (hK1.2 (xTY cy).length (cA, newarray.typeOf atype) (by simp)).2
  have e2 := hprim _ _ (C.1.2.2.2.2.2.1.2 t _ ht).2
  have e3 : cA = cy t := Option.some.inj (e1.symm.trans e2)
  subst e3
  rw [hws] at hP1 hD1
  exact kk q H1 locs la hP1 hD1 hS1 hl
theorem x_gnewq (C : xC2 p s m args meth c D A H0 nL cc own (xTY cy)) {Cn : String} {index : Nat} (hcl : Cond.classLink own index Cn ∈ WG) (hov : Cn ∈ [RX5, RX4, RX9]) {t : Nat} (ht : (xTY cy)[t]? = some (cy t, .object Cn)) {N' : Nat} (hN : N' < 2147483648) (hbytes : N' * 4 ≤ 536870912) (hcells : cells + 1 ≤ R.cells) (hslots : slots + N' ≤ R.slots) (hd : decode cc pc = .ok (.anewarray index, 3)) {ws2 : Nat → va_W} (hws : ∀ q, ws ++ [(q, .inl (cy t, N', .inr (.inr (.inr (.inr (fun _ => none))))))] = ws2 q) (kk : ∀ q : Nat, xW p l e R s m args below meth c D A H0 nL (cells + 1) (slots + N') Q (ws2 q) (pc + 3) lv (.ref q :: st)) : xW p l e R s m args below meth c D A H0 nL cells slots Q ws pc lv (vI (N' : Int) :: st) := by
  intro H locs la hP hD hS hl
  have r : R32 (N' : Int) := ⟨by omega, by omega⟩
  refine va_newq C.1.1 C.1.2.1 C.1.2.2.2.1 (C.1.2.2.2.2.1 _ hcl) (C.2.1 _ hov) C.1.2.2.2.2.2.1 hP hD hS C.1.2.2.2.2.2.2.1 (fun h => by have := (xi_lt (b := 0) r (by decide)).mp h; omega) (N' := N') (by rw [xi_nat r]; omega) hbytes hcells hslots hd (fun q cA H1 hK1 hP1 hD1 hS1 => ?_)
  obtain ⟨_, _, _, _, _, e1⟩ := (hK1.2 (xTY cy).length (cA, .object Cn) (by simp)).2
  obtain ⟨_, _, _, _, _, e2⟩ := (C.1.2.2.2.2.2.1.2 t _ ht).2
  have e3 : cA = cy t := Option.some.inj (e1.symm.trans e2)
  subst e3
  rw [hws] at hP1 hD1
  exact kk q H1 locs la hP1 hD1 hS1 hl
theorem x_gastq (C : xC2 p s m args meth c D A H0 nL cc own (xTY cy)) {t : Nat} {r : vw_C} (ht : (xTY cy)[t]? = some (cy t, .object r.1)) {a n v ci : Nat} {vs : List Value} {f : Nat → Option Nat} (q0 qk : Nat) (ha : ws[q0]? = some (a, .inl (cy t, n, .inr (.inr (.inr (.inr f)))))) (hv : ws[qk]? = some (v, .inr (ci, vs))) (hc : vwCl[ci]? = some r) (i : Nat) (hi : i < n) (hn : n < 2147483648) (hd : decode cc pc = .ok (.aastore, 1)) {ws2 : va_W} (hws : ws.set q0 (a, .inl (cy t, n, .inr (.inr (.inr (.inr (va_up f i (some v))))))) = ws2) (kk : xW p l e R s m args below meth c D A H0 nL cells slots Q ws2 (pc + 1) lv st) : xW p l e R s m args below meth c D A H0 nL cells slots Q ws pc lv (.ref v :: vI (i : Int) :: .ref a :: st) := by
  intro H locs la hP hD hS hl
  refine va_astq C.1.1 C.1.2.1 C.1.2.2.2.2.2.1 hP hD hS q0 t qk ci (r := r) ha ht hv hc (xi_in (a := (i : Int)) (by omega) hn) hd (fun H1 locs1 hP1 hD1 hS1 => ?_)
  rw [xi_nat ⟨by omega, by omega⟩, Int.toNat_natCast, hws] at hP1 hD1
  exact kk H1 locs1 la hP1 hD1 hS1 hl
theorem x_giast (C : xC2 p s m args meth c D A H0 nL cc own (xTY cy)) {a n : Nat} {f : Nat → Int32} {x : Int} (q0 : Nat) (ha : ws[q0]? = some (a, .inl (cy 0, n, .inl f))) (i : Nat) (hi : i < n) (hn : n < 2147483648) (hd : decode cc pc = .ok (.iastore, 1)) {ws2 : va_W} (hws : ws.set q0 (a, .inl (cy 0, n, .inl (upd f i (Int32.ofInt x)))) = ws2) (kk : xW p l e R s m args below meth c D A H0 nL cells slots Q ws2 (pc + 1) lv st) : xW p l e R s m args below meth c D A H0 nL cells slots Q ws pc lv (vI x :: vI (i : Int) :: .ref a :: st) := by
  intro H locs la hP hD hS hl
  refine va_iast C.1.1 C.1.2.1 C.1.2.2.2.2.2.1 hP hD hS q0 0 ha rfl (xi_in (a := (i : Int)) (by omega) hn) hd (fun H1 locs1 hP1 hD1 hS1 => ?_)
  rw [xi_nat ⟨by omega, by omega⟩, Int.toNat_natCast, hws] at hP1 hD1
  exact kk H1 locs1 la hP1 hD1 hS1 hl
end XG
end
