-- answers: whoDid (own work)
theorem lop4_g2 {α β γ δ ρ : Type} {n : Nat} {b : (α → β → γ → δ → ρ → Prop) → α → β → γ → δ → ρ → Prop} {x : α} {y : β} {z : γ} {w : δ} {r : ρ} (h : lop4 n b x y z w r) : ∃ b2, b2 = b ∧ lop4 n b2 x y z w r := ⟨b, rfl, h⟩
theorem sub8n (s : Nat) (hs : s < 256) (t : Nat) (ht : t < 256) : (s &&& t = s ↔ s &&& (255 - t) = 0) ∧ (t < s → ¬ s &&& (255 - t) = 0) := by
  have d1 : ∀ t : Nat, t < 256 → 255 - t = 255 ^^^ t := by decide +kernel
  have d2 : ∀ t : Nat, t < 256 → t &&& 255 = t := by decide +kernel
  have e : s &&& (255 - t) = s ^^^ (s &&& t) := by rw [d1 t ht, Nat.and_xor_distrib_left, d2 s hs]
  have q : s &&& (255 - t) = 0 → s = s &&& t := fun h => by
    rw [e] at h
    have h2 : (s ^^^ (s &&& t)) ^^^ (s &&& t) = s &&& t := by rw [h, Nat.zero_xor]
    rw [Nat.xor_assoc, Nat.xor_self, Nat.xor_zero] at h2
    exact h2
  have le : s &&& t ≤ t := Nat.and_le_right
  refine ⟨⟨fun h => by rw [e, h, Nat.xor_self], fun h => (q h).symm⟩, fun hts h => ?_⟩
  have := q h
  omega
theorem sub8a : ∀ s : Nat, s < 256 → iAnd (s : Int) 255 = s := by decide +kernel
theorem sub8b : ∀ t : Nat, t < 256 → iAnd 255 (iXor (t : Int) (-1)) = ((255 - t : Nat) : Int) := by decide +kernel
theorem sub8c (a b c : Int) : iAnd (iAnd a b) c = iAnd a (iAnd b c) := by
  unfold iAnd
  rw [Int32.ofInt_toInt, Int32.ofInt_toInt, Int32.and_assoc]
theorem sub8 (s : Nat) (hs : s < 256) (t : Nat) (ht : t < 256) : (iAnd (s : Int) (t : Int) = s ↔ iAnd (s : Int) (iXor (t : Int) (-1)) = 0) ∧ (t < s → ¬ iAnd (s : Int) (iXor (t : Int) (-1)) = 0) := by
  have e1 : iAnd (s : Int) (iXor (t : Int) (-1)) = ((s &&& (255 - t) : Nat) : Int) := by
    rw [← sub8a s hs, sub8c, sub8b t ht, iAnd_n (by omega) (by omega)]
  have h := sub8n s hs t ht
  rw [e1, iAnd_n (by omega) (by omega)]
  omega
theorem sub8i {s t : Int} (hs : 0 ≤ s ∧ s < 256) (ht : 0 ≤ t ∧ t < 256) : (iAnd s t = s ↔ iAnd s (iXor t (-1)) = 0) ∧ (t < s → ¬ iAnd s (iXor t (-1)) = 0) := by
  have h := sub8 s.toNat (by omega) t.toNat (by omega)
  rw [show ((s.toNat : Nat) : Int) = s by omega, show ((t.toNat : Nat) : Int) = t by omega] at h
  exact ⟨h.1, fun hh => h.2 (by omega)⟩
theorem e_whoDid {x y z u v a b : Int} {V V2 J W Jm X : Nat → Nat → Int} {R Rm : Nat → Nat → Nat} (h : WR R V W) (hx : f_s_whoDid x y z u v V J R (a, V2)) (hm : f_m_whoDid x y z u v W Jm Rm (b, X)) : a = b := by
  obtain ⟨t1, t2, t3⟩ := h.2.2.2.2
  have same : ∀ {c : Int} {V3 W3 : Nat → Nat → Int}, rtn (c, V3) (a, V2) → rtn (c, W3) (b, X) → a = b := fun h1 h2 => by
    simp only [rtn, Prod.mk.injEq] at h1 h2
    rw [h1.1, h2.1]
  unfold f_s_whoDid at hx
  unfold f_m_whoDid at hm
  obtain ⟨z1, h1, -, hx⟩ := hx
  obtain ⟨y1, k1, -, hm⟩ := hm
  have h1 := q_sWithin h1
  have e1 : z1 = y1 := h1.eq (q_mIn k1) Iff.rfl
  subst e1
  by_cases g1 : z1 = 0
  · rw [if_pos g1] at hx hm; exact same hx hm
  rw [if_neg g1] at hx hm
  have q1 := h1.on g1
  obtain ⟨z4, h4, -, hx⟩ := hx
  obtain ⟨y4, k4, -, hm⟩ := hm
  have h4 := q_sWithin h4
  have e4 : z4 = y4 := h4.eq (q_mIn k4) Iff.rfl
  subst e4
  by_cases g4 : z4 = 0
  · rw [if_pos g4] at hx hm; exact same hx hm
  rw [if_neg g4] at hx hm
  have q4 := h4.on g4
  obtain ⟨zb, hb, -, hx⟩ := hx
  obtain ⟨yb, kb, hm⟩ := hm
  have eb : zb = yb := by rw [q_bitCount hb ⟨by omega, by omega⟩, q_bits kb]
  subst eb
  by_cases gb : zb ≤ 5
  · rw [if_pos gb] at hx
    rw [if_neg (by omega)] at hm
    obtain ⟨z7, h7, -, hx⟩ := hx
    obtain ⟨y7, k7, -, hm⟩ := hm
    have h7 := q_sWithin h7
    have e7 : z7 = y7 := h7.eq (q_mIn k7) Iff.rfl
    subst e7
    by_cases g7 : z7 = 0
    · rw [if_pos g7] at hx hm; exact same hx hm
    rw [if_neg g7] at hx hm
    have q7 := h7.on g7
    obtain ⟨z8, h8, -, hx⟩ := hx
    obtain ⟨y8, k8, -, hm⟩ := hm
    have h8 := q_sWithin h8
    have e8 : z8 = y8 := h8.eq (q_mIn k8) Iff.rfl
    subst e8
    by_cases g8 : z8 = 0
    · rw [if_pos g8] at hx hm; exact same hx hm
    rw [if_neg g8] at hx hm
    have q8 := h8.on g8
    obtain ⟨z9, h9, -, hx⟩ := hx
    obtain ⟨y9, k9, -, hm⟩ := hm
    have h9 := q_sWithin h9
    have e9 : z9 = y9 := h9.eq (q_mIn k9) Iff.rfl
    subst e9
    by_cases g9 : z9 = 0
    · rw [if_neg (fun hh => hh g9)] at hx
      rw [if_pos g9] at hm
      exact same hx hm
    rw [if_pos g9] at hx
    rw [if_neg g9] at hm
    obtain ⟨z10, e10, -, hx⟩ := rdb_g hx
    obtain ⟨y10, f10, -, hm⟩ := rdb_g hm
    have e : z10 = y10 := by rw [← e10, ← f10]; exact t1
    subst e
    by_cases g10 : x + 1 ≤ z10
    · rw [if_pos g10] at hx hm
      obtain ⟨W9, f9, hm⟩ := rdb_g hm
      have w94 : W9 4 = W 4 := by rw [← f9, up2_c _ _ (by decide)]
      obtain ⟨bX, hbX, hx9⟩ := lop4_g2 hx
      obtain ⟨bM, hbM, hm9⟩ := lop4_g2 hm
      have key : ∀ (N M : Nat) (i : Int) (oc fc pc : Int), 0 ≤ i → lop4 N bX i oc fc pc (a, V2) → lop4 M bM i oc fc pc (b, X) → a = b := by
        intro N
        induction N with
        | zero => intro M i oc fc pc _ hx; exact False.elim hx
        | succ N ih =>
          intro M i oc fc pc hi hx hm
          cases M with
          | zero => exact False.elim hm
          | succ M =>
            rw [lop4_s hbX] at hx
            rw [lop4_s hbM] at hm
            by_cases ga : x ≤ i
            · rw [if_pos ga] at hx hm
              obtain ⟨V9, e9, hx⟩ := rdb_g hx
              by_cases gv : ¬ v = 0
              · rw [if_pos gv] at hx hm
                by_cases gv1 : ¬ v = 1
                · rw [if_pos gv1] at hx hm
                  by_cases gw : ¬ lcI pc 0 = 0
                  · rw [if_pos gw] at hx hm; exact same hx hm
                  · rw [if_neg gw] at hx hm; exact same hx hm
                · rw [if_neg gv1] at hx hm; exact same hx hm
              · rw [if_neg gv] at hx hm; exact same hx hm
            · rw [if_neg ga] at hx hm
              obtain ⟨cX, hcX, hx⟩ := lop3_g hx
              obtain ⟨cM, hcM, hm⟩ := lop3_g hm
              -- what comes behind the sets
              have fin : ∀ ac nc : Int, (jnk (fun (z5068 : Int) => rdb (wrJ (pc * nc)) fun z5070 => rdb (iOr oc ac) fun z5071 => lop4 N bX (i + 1) z5071 z5068 z5070) fun jf5069 => (if ¬ nc = 0 then jf5069 fc else (if ¬ fc = (-2) then jf5069 fc else jf5069 i))) (a, V2) →
                  (rdb (wrJ (pc * nc)) fun z7302 => jnk (fun (z7304 : Int) => rdb (iOr oc ac) fun z7306 => lop4 M bM (i + 1) z7306 z7304 z7302) fun jf7305 => (if ¬ nc = 0 then jf7305 fc else (if ¬ fc = (-2) then jf7305 fc else jf7305 i))) (b, X) → a = b := by
                intro ac nc hx hm
                have hx := jnk_d hx
                obtain ⟨p2, ep2, hm⟩ := rdb_g hm
                have hm := jnk_d hm
                have nx : ∀ f2 : Int, (rdb (wrJ (pc * nc)) fun z5070 => rdb (iOr oc ac) fun z5071 => lop4 N bX (i + 1) z5071 f2 z5070) (a, V2) → (rdb (iOr oc ac) fun z7306 => lop4 M bM (i + 1) z7306 f2 p2) (b, X) → a = b := fun f2 hx hm => by
                  obtain ⟨p3, ep3, hx⟩ := rdb_g hx
                  obtain ⟨o3, eo3, hx⟩ := rdb_g hx
                  obtain ⟨o4, eo4, hm⟩ := rdb_g hm
                  rw [← eo3, ← ep3] at hx
                  rw [← eo4, ← ep2] at hm
                  exact ih M (i + 1) _ _ _ (by omega) hx hm
                by_cases gn : ¬ nc = 0
                · rw [if_pos gn] at hx hm; exact nx _ hx hm
                · rw [if_neg gn] at hx hm
                  by_cases gf : ¬ fc = (-2)
                  · rw [if_pos gf] at hx hm; exact nx _ hx hm
                  · rw [if_neg gf] at hx hm; exact nx _ hx hm
              -- behind the told ones, the reference only counts on
              have skip : ∀ (m : Nat) (s ac nc : Int), y < s → 0 ≤ s → lop3 m cM s ac nc (b, X) → (rdb (wrJ (pc * nc)) fun z7302 => jnk (fun (z7304 : Int) => rdb (iOr oc ac) fun z7306 => lop4 M bM (i + 1) z7306 z7304 z7302) fun jf7305 => (if ¬ nc = 0 then jf7305 fc else (if ¬ fc = (-2) then jf7305 fc else jf7305 i))) (b, X) := by
                intro m
                induction m with
                | zero => intro s ac nc _ _ h; exact False.elim h
                | succ m ih2 =>
                  intro s ac nc hs hs0 h
                  rw [lop3_s hcM] at h
                  by_cases g : 256 ≤ s
                  · rw [if_pos g] at h; exact h
                  · rw [if_neg g] at h
                    obtain ⟨w1, ew1, h⟩ := rdb_g h
                    obtain ⟨w2, ew2, -, h⟩ := rdb_g h
                    have h := jnk_d h
                    rw [← ew1] at ew2
                    have hn := (sub8i (s := s) (t := y) (by omega) (by omega)).2 hs
                    rw [ew2] at hn
                    rw [if_pos hn] at h
                    exact ih2 (s + 1) ac nc (by omega) (by omega) h
              have inn : ∀ (n m : Nat) (s ac nc : Int), 0 ≤ s → lop3 n cX s ac nc (a, V2) → lop3 m cM s ac nc (b, X) → a = b := by
                intro n
                induction n with
                | zero => intro m s ac nc _ h; exact False.elim h
                | succ n ih2 =>
                  intro m s ac nc hs hx hm
                  by_cases g : y < s
                  · have hm2 := skip m s ac nc g hs hm
                    rw [lop3_s hcX, if_pos g] at hx
                    exact fin ac nc hx hm2
                  · cases m with
                    | zero => exact False.elim hm
                    | succ m =>
                      rw [lop3_s hcX, if_neg g] at hx
                      rw [lop3_s hcM, if_neg (by omega)] at hm
                      obtain ⟨v1, ev1, -, hx⟩ := rdb_g hx
                      have hx := jnk_d hx
                      obtain ⟨w1, ew1, hm⟩ := rdb_g hm
                      obtain ⟨w2, ew2, -, hm⟩ := rdb_g hm
                      have hm := jnk_d hm
                      rw [← ew1] at ew2
                      have hq := (sub8i (s := s) (t := y) (by omega) (by omega)).1
                      rw [ev1, ew2] at hq
                      by_cases gs : v1 = s
                      · rw [if_neg (fun hh => hh gs)] at hx
                        rw [if_neg (fun hh => hh (hq.mp gs))] at hm
                        obtain ⟨v2, hv2, -, hx⟩ := hx
                        have hv2 := q_bitCount hv2 ⟨by omega, by omega⟩
                        obtain ⟨v3, ev3, -, hx⟩ := rdb_g hx
                        obtain ⟨v4, hv4, -, hx⟩ := hx
                        obtain ⟨w3, ew3, rw3, hm⟩ := rdb_g hm
                        obtain ⟨w4, ew4, rw4, hm⟩ := rdb_g hm
                        obtain ⟨w5, hw5, hm⟩ := hm
                        have hw5 := q_bits hw5
                        obtain ⟨w6, ew6, hm⟩ := rdb_g hm
                        obtain ⟨w7, ew7, hm⟩ := rdb_g hm
                        obtain ⟨w8, ew8, hm⟩ := rdb_g hm
                        obtain ⟨w9, hw9, hm⟩ := hm
                        have hw9 := q_max hw9
                        obtain ⟨wa, ewa, rwa, hm⟩ := rdb_g hm
                        obtain ⟨wb, ewb, rwb, hm⟩ := rdb_g hm
                        unfold f_s_fits at hv4
                        obtain ⟨u1, hu1, hv4⟩ := hv4
                        have hu1 := q_at hu1 ⟨by omega, by rw [t1]; omega⟩
                        obtain ⟨u2, eu2, hv4⟩ := rdb_g hv4
                        obtain ⟨u3, eu3, -, hv4⟩ := rdb_g hv4
                        obtain ⟨u4, eu4, hv4⟩ := rdb_g hv4
                        rw [wr_id ⟨by omega, by omega⟩] at eu4
                        obtain ⟨u5, hu5, hv4⟩ := hv4
                        have hu5 := q_at hu5 ⟨by omega, by rw [t1]; omega⟩
                        rw [w94] at ew3 ewa
                        rw [t3 _ (by omega), ew3, ew4] at hu1
                        rw [t3 _ (by omega), ← eu4, ewa, ewb] at hu5
                        have cr := cnt_r s
                        have hm1 : 0 ≤ cnt s * z ∧ cnt s * z ≤ 8 * z := ⟨Int.mul_nonneg (by omega) (by omega), Int.mul_le_mul_of_nonneg_right (by omega) (by omega)⟩
                        rw [hv2] at ev3
                        rw [hw5, Int.mul_comm, wr_id ⟨by omega, by omega⟩] at ew6
                        rw [← ew6, wr_id ⟨by omega, by omega⟩] at ew7
                        rw [← ew7, wr_id ⟨by omega, by omega⟩] at ew8
                        rw [← ev3, hu1, wr_id ⟨by omega, by omega⟩] at eu2
                        have e39 : u3 = w9 := by
                          rw [← eu3, hw9, ← eu2, ← ew8]
                          congr 1
                          omega
                        by_cases gq : u3 = u5
                        · rw [if_neg (fun hh => hh gq)] at hv4
                          have hv4 : v4 = 1 := hv4
                          rw [if_neg (by omega)] at hx
                          rw [if_pos (by rw [← e39, gq, hu5])] at hm
                          obtain ⟨c1, ec1, hx⟩ := rdb_g hx
                          obtain ⟨c2, ec2, -, hx⟩ := rdb_g hx
                          obtain ⟨d1, ed1, hm⟩ := rdb_g hm
                          obtain ⟨d2, ed2, -, hm⟩ := rdb_g hm
                          rw [← ec1, ← ec2] at hx
                          rw [← ed1, ← ed2] at hm
                          exact ih2 m (s + 1) _ _ (by omega) hx hm
                        · rw [if_pos gq] at hv4
                          have hv4 : v4 = 0 := hv4
                          rw [if_pos hv4] at hx
                          rw [if_neg (by rw [← e39, ← hu5]; exact gq)] at hm
                          exact ih2 m (s + 1) _ _ (by omega) hx hm
                      · rw [if_pos gs] at hx
                        rw [if_pos (fun hh => gs (hq.mpr hh))] at hm
                        exact ih2 m (s + 1) _ _ (by omega) hx hm
              exact inn _ _ 0 y 0 (by omega) hx hm
      exact key _ _ 0 0 (-2) 1 (by omega) hx9 hm9
    · rw [if_neg g10] at hx hm; exact same hx hm
  · rw [if_neg gb] at hx
    rw [if_pos (by omega)] at hm
    exact same hx hm
