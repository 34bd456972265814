-- a rota read: the loops (own work)
set_option maxRecDepth 100000 in
def rwB (J : Nat → Nat → Int) (Rr : Nat → Nat → Nat) : (Int → (Nat → Nat → Int) → (Int × (Nat → Nat → Int)) → Prop) → Int → (Nat → Nat → Int) → (Int × (Nat → Nat → Int)) → Prop :=
  fun rc346 (z344 : Int) (V346 : Nat → Nat → Int) => rdb (V346 0 5) fun z347 => fct (0 ≤ z347 ∧ z347 ≤ 220) <| rdb (V346 0 46) fun z348 => fct (0 ≤ z348 ∧ z348 ≤ 84) <| rdb (V346 0 47) fun z349 => fct (0 ≤ z349 ∧ z349 ≤ 12) <| (if 7 ≤ z344 then rdb (up2 V346 0 47 (z349 + 1)) fun V351 => calR (f_m_here V351 J Rr) fun z352 => fct (-1 ≤ z352 ∧ z352 ≤ 255) <| calR (f_m_isDayAt z352) fun z353 => fct (0 ≤ z353 ∧ z353 ≤ 1) <| (if z353 = 0 then rtn (1, V351) else calVM 128 V351 (f_m_wrongAt 6 z347 V351 J Rr) fun z357 V357 => fct (0 ≤ z357 ∧ z357 ≤ 0) <| rtn (0, V357)) else calR (f_m_here V346 J Rr) fun z358 => fct (-1 ≤ z358 ∧ z358 ≤ 255) <| calR (f_m_isDayAt z358) fun z359 => fct (0 ≤ z359 ∧ z359 ≤ 1) <| (if ¬ z359 = 0 then calR (f_m_in z358 50 55) fun z362 => fct (0 ≤ z362 ∧ z362 ≤ 1) <| jnk (fun (z365 : Int) => (if z344 + z365 ≤ 7 then (if z365 ≤ 1 then calR (f_m_here V346 J Rr) fun z370 => fct (-1 ≤ z370 ∧ z370 ≤ 255) <| (if z370 = 46 then lop2 (3) (fun rc381 (z379 : Int) (V381 : Nat → Nat → Int) => (if z365 ≤ z379 then rdb (up2 V381 0 46 (z348 + z365)) fun V389 => rdb (up2 V389 0 5 (z347 + 1)) fun V390 => rc346 (z344 + z365) V390 else rdb (up2 V381 30 ((z348 + z379).toNat) (-1)) fun V391 => rc381 (z379 + 1) V391)) 0 V346 else calR (f_m_in z370 97 104) fun z392 => fct (0 ≤ z392 ∧ z392 ≤ 1) <| (if ¬ z392 = 0 then calR (f_m_isPerson (z370 - 97) V346 J Rr) fun z395 => fct (0 ≤ z395 ∧ z395 ≤ 1) <| (if ¬ z395 = 0 then lop2 (3) (fun rc407 (z405 : Int) (V407 : Nat → Nat → Int) => (if z365 ≤ z405 then rdb (up2 V407 0 46 (z348 + z365)) fun V415 => rdb (up2 V415 0 5 (z347 + 1)) fun V416 => rc346 (z344 + z365) V416 else rdb (up2 V407 30 ((z348 + z405).toNat) (z370 - 97)) fun V417 => rc407 (z405 + 1) V417)) 0 V346 else calVM 128 V346 (f_m_wrongAt 7 z347 V346 J Rr) fun z418 V418 => fct (0 ≤ z418 ∧ z418 ≤ 0) <| rtn (z418, V418)) else calVM 128 V346 (f_m_wrongAt 1 z347 V346 J Rr) fun z420 V420 => fct (0 ≤ z420 ∧ z420 ≤ 0) <| rtn (z420, V420))) else rdb (up2 V346 0 5 (z347 + 1)) fun V421 => calR (f_m_here V421 J Rr) fun z422 => fct (-1 ≤ z422 ∧ z422 ≤ 255) <| (if z422 = 46 then lop2 (9) (fun rc453 (z451 : Int) (V453 : Nat → Nat → Int) => (if z365 ≤ z451 then rdb (up2 V453 0 46 (z348 + z365)) fun V461 => rdb (up2 V461 0 5 (z347 + 2)) fun V462 => rc346 (z344 + z365) V462 else rdb (up2 V453 30 ((z348 + z451).toNat) (-1)) fun V463 => rc453 (z451 + 1) V463)) 0 V421 else calR (f_m_in z422 97 104) fun z464 => fct (0 ≤ z464 ∧ z464 ≤ 1) <| (if ¬ z464 = 0 then calR (f_m_isPerson (z422 - 97) V421 J Rr) fun z467 => fct (0 ≤ z467 ∧ z467 ≤ 1) <| (if ¬ z467 = 0 then lop2 (9) (fun rc499 (z497 : Int) (V499 : Nat → Nat → Int) => (if z365 ≤ z497 then rdb (up2 V499 0 46 (z348 + z365)) fun V507 => rdb (up2 V507 0 5 (z347 + 2)) fun V508 => rc346 (z344 + z365) V508 else rdb (up2 V499 30 ((z348 + z497).toNat) (z422 - 97)) fun V509 => rc499 (z497 + 1) V509)) 0 V421 else calVM 128 V421 (f_m_wrongAt 7 (z347 + 1) V421 J Rr) fun z510 V510 => fct (0 ≤ z510 ∧ z510 ≤ 0) <| rtn (z510, V510)) else calVM 128 V421 (f_m_wrongAt 1 (z347 + 1) V421 J Rr) fun z512 V512 => fct (0 ≤ z512 ∧ z512 ≤ 0) <| rtn (z512, V512)))) else calVM 128 V346 (f_m_wrongAt 6 z347 V346 J Rr) fun z513 V513 => fct (0 ≤ z513 ∧ z513 ≤ 0) <| rtn (z513, V513))) fun jf367 => (if z362 = 0 then jf367 1 else jf367 (z358 - 48)) else calVM 128 V346 (f_m_wrongAt 1 z347 V346 J Rr) fun z518 V518 => fct (0 ≤ z518 ∧ z518 ≤ 0) <| rtn (z518, V518)))
set_option maxRecDepth 100000 in
def rxB (x2 : Int) (k3 : Nat) (J : Nat → Nat → Int) (Rr : Nat → Nat → Nat) : (Int → Int → Int → Int → (Nat → Nat → Int) → (Int × (Nat → Nat → Int)) → Prop) → Int → Int → Int → Int → (Nat → Nat → Int) → (Int × (Nat → Nat → Int)) → Prop :=
  fun rc926 (z922 : Int) (z923 : Int) (z924 : Int) (z925 : Int) (V926 : Nat → Nat → Int) => (if 180 < z922 then rtn (0, V926) else (if x2 < z923 then rtn (0, V926) else calR (f_s_signAt z923 x2 V926 J Rr) fun z1086 => (if ¬ z924 = 7 then (if ¬ z924 = 7 then jnk (fun (z1090 : Int) => calR (f_s_dayFault z1086 z1090 z925 z924) fun z1092 => jnk (fun (z1100 : Int) (z1101 : Int) (z1102 : Int) => jnk (fun (z1109 : Int) => (if z1109 = 0 then jnk (fun (z1113 : Int) => calUX (fun i k : Nat => (124 ≤ i ∧ i ≤ 125)) V926 (f_s_addR z1113 z1090 V926 J Rr) fun V1115 => rdb (wr (z924 + z1090)) fun z1116 => rdb (wr (z1102 + 1)) fun z1117 => rc926 (z922 + 1) z1117 z1116 z925 V1115) fun jf1114 => (if ¬ z1101 = 46 then rdb (wr (z1101 - 97)) fun z1119 => jf1114 z1119 else jf1114 ((-1))) else rdb (wr ((-1000) * z1109)) fun z1120 => rdb (wr (z1120 - z1102)) fun z1121 => rtn (z1121, V926))) fun jf1110 => (if ¬ z1100 = 0 then jf1110 z1100 else (if z1101 = 46 then jf1110 z1100 else rdb (wr (z1101 - 97)) fun z1124 => calR (f_s_isPerson k3 z1124 V926 J Rr) fun z1125 => fct (0 ≤ z1125 ∧ z1125 ≤ 1) <| (if ¬ z1125 = 0 then jf1110 z1100 else jf1110 7)))) fun jf1103 => (if ¬ z1092 = 0 then jf1103 z1092 z1086 z923 else (if z1090 ≤ 1 then jf1103 z1092 z1086 z923 else rdb (wr (z923 + 1)) fun z1130 => calR (f_s_signAt z1130 x2 V926 J Rr) fun z1131 => calR (f_s_isComer z1131) fun z1132 => fct (0 ≤ z1132 ∧ z1132 ≤ 1) <| jnk (fun (z1133 : Int) => jf1103 z1133 z1131 z1130) fun jf1134 => (if z1132 = 0 then jf1134 1 else jf1134 0)))) fun jf1091 => (if z1086 < 50 then jf1091 1 else (if 55 < z1086 then jf1091 1 else jf1091 (z1086 - 48))) else (if ¬ z1086 = 47 then jnk (fun (z1140 : Int) => calR (f_s_dayFault z1086 z1140 z925 z924) fun z1142 => jnk (fun (z1150 : Int) (z1151 : Int) (z1152 : Int) => jnk (fun (z1159 : Int) => (if z1159 = 0 then jnk (fun (z1163 : Int) => calUX (fun i k : Nat => (124 ≤ i ∧ i ≤ 125)) V926 (f_s_addR z1163 z1140 V926 J Rr) fun V1165 => rdb (wr (z1152 + 1)) fun z1166 => rc926 (z922 + 1) z1166 (z924 + z1140) z925 V1165) fun jf1164 => (if ¬ z1151 = 46 then rdb (wr (z1151 - 97)) fun z1168 => jf1164 z1168 else jf1164 ((-1))) else rdb (wr ((-1000) * z1159)) fun z1169 => rdb (wr (z1169 - z1152)) fun z1170 => rtn (z1170, V926))) fun jf1160 => (if ¬ z1150 = 0 then jf1160 z1150 else (if z1151 = 46 then jf1160 z1150 else rdb (wr (z1151 - 97)) fun z1173 => calR (f_s_isPerson k3 z1173 V926 J Rr) fun z1174 => fct (0 ≤ z1174 ∧ z1174 ≤ 1) <| (if ¬ z1174 = 0 then jf1160 z1150 else jf1160 7)))) fun jf1153 => (if ¬ z1142 = 0 then jf1153 z1142 z1086 z923 else (if z1140 ≤ 1 then jf1153 z1142 z1086 z923 else rdb (wr (z923 + 1)) fun z1179 => calR (f_s_signAt z1179 x2 V926 J Rr) fun z1180 => calR (f_s_isComer z1180) fun z1181 => fct (0 ≤ z1181 ∧ z1181 ≤ 1) <| jnk (fun (z1182 : Int) => jf1153 z1182 z1180 z1179) fun jf1183 => (if z1181 = 0 then jf1183 1 else jf1183 0)))) fun jf1141 => (if z1086 < 50 then jf1141 1 else (if 55 < z1086 then jf1141 1 else jf1141 (z1086 - 48))) else rdb (wr (z925 + 1)) fun z1187 => rdb (wr (z923 + 1)) fun z1188 => rc926 (z922 + 1) z1188 0 z1187 V926)) else (if ¬ z1086 = (-1) then (if ¬ z1086 = 47 then jnk (fun (z1192 : Int) => calR (f_s_dayFault z1086 z1192 z925 z924) fun z1194 => jnk (fun (z1202 : Int) (z1203 : Int) (z1204 : Int) => jnk (fun (z1211 : Int) => (if z1211 = 0 then jnk (fun (z1215 : Int) => calUX (fun i k : Nat => (124 ≤ i ∧ i ≤ 125)) V926 (f_s_addR z1215 z1192 V926 J Rr) fun V1217 => rdb (wr (z1204 + 1)) fun z1218 => rc926 (z922 + 1) z1218 (z924 + z1192) z925 V1217) fun jf1216 => (if ¬ z1203 = 46 then rdb (wr (z1203 - 97)) fun z1220 => jf1216 z1220 else jf1216 ((-1))) else rdb (wr ((-1000) * z1211)) fun z1221 => rdb (wr (z1221 - z1204)) fun z1222 => rtn (z1222, V926))) fun jf1212 => (if ¬ z1202 = 0 then jf1212 z1202 else (if z1203 = 46 then jf1212 z1202 else rdb (wr (z1203 - 97)) fun z1225 => calR (f_s_isPerson k3 z1225 V926 J Rr) fun z1226 => fct (0 ≤ z1226 ∧ z1226 ≤ 1) <| (if ¬ z1226 = 0 then jf1212 z1202 else jf1212 7)))) fun jf1205 => (if ¬ z1194 = 0 then jf1205 z1194 z1086 z923 else (if z1192 ≤ 1 then jf1205 z1194 z1086 z923 else rdb (wr (z923 + 1)) fun z1231 => calR (f_s_signAt z1231 x2 V926 J Rr) fun z1232 => calR (f_s_isComer z1232) fun z1233 => fct (0 ≤ z1233 ∧ z1233 ≤ 1) <| jnk (fun (z1234 : Int) => jf1205 z1234 z1232 z1231) fun jf1235 => (if z1233 = 0 then jf1235 1 else jf1235 0)))) fun jf1193 => (if z1086 < 50 then jf1193 1 else (if 55 < z1086 then jf1193 1 else jf1193 (z1086 - 48))) else rdb (wr (z925 + 1)) fun z1239 => rdb (wr (z923 + 1)) fun z1240 => rc926 (z922 + 1) z1240 0 z1239 V926) else rtn (0, V926)))))
-- a day is read at place z923, sign z1086; then G
set_option maxRecDepth 100000 in
def dayD (x2 : Int) (k3 : Nat) (J : Nat → Nat → Int) (Rr : Nat → Nat → Nat) (G : Int → Int → (Nat → Nat → Int) → (Int × (Nat → Nat → Int)) → Prop) (z1086 z923 z924 z925 : Int) (V926 : Nat → Nat → Int) : (Int × (Nat → Nat → Int)) → Prop :=
  jnk (fun (z1090 : Int) => calR (f_s_dayFault z1086 z1090 z925 z924) fun z1092 => jnk (fun (z1100 : Int) (z1101 : Int) (z1102 : Int) => jnk (fun (z1109 : Int) => (if z1109 = 0 then jnk (fun (z1113 : Int) => calUX (fun i k : Nat => (124 ≤ i ∧ i ≤ 125)) V926 (f_s_addR z1113 z1090 V926 J Rr) fun V1115 => G z1090 z1102 V1115) fun jf1114 => (if ¬ z1101 = 46 then rdb (wr (z1101 - 97)) fun z1119 => jf1114 z1119 else jf1114 ((-1))) else rdb (wr ((-1000) * z1109)) fun z1120 => rdb (wr (z1120 - z1102)) fun z1121 => rtn (z1121, V926))) fun jf1110 => (if ¬ z1100 = 0 then jf1110 z1100 else (if z1101 = 46 then jf1110 z1100 else rdb (wr (z1101 - 97)) fun z1124 => calR (f_s_isPerson k3 z1124 V926 J Rr) fun z1125 => fct (0 ≤ z1125 ∧ z1125 ≤ 1) <| (if ¬ z1125 = 0 then jf1110 z1100 else jf1110 7)))) fun jf1103 => (if ¬ z1092 = 0 then jf1103 z1092 z1086 z923 else (if z1090 ≤ 1 then jf1103 z1092 z1086 z923 else rdb (wr (z923 + 1)) fun z1130 => calR (f_s_signAt z1130 x2 V926 J Rr) fun z1131 => calR (f_s_isComer z1131) fun z1132 => fct (0 ≤ z1132 ∧ z1132 ≤ 1) <| jnk (fun (z1133 : Int) => jf1103 z1133 z1131 z1130) fun jf1134 => (if z1132 = 0 then jf1134 1 else jf1134 0)))) fun jf1091 => (if z1086 < 50 then jf1091 1 else (if 55 < z1086 then jf1091 1 else jf1091 (z1086 - 48)))
abbrev cmr (s : Int) : Prop := s = 46 ∨ (97 ≤ s ∧ s ≤ 104)
theorem q_isComer {s r : Int} (h : f_s_isComer s r) : Sq r (cmr s) := by
  unfold f_s_isComer at h
  unfold Sq cmr
  by_cases g : s = 46
  · rw [if_pos g] at h; have h : r = 1 := h; omega
  · rw [if_neg g] at h
    by_cases g1 : s < 97
    · rw [if_pos g1] at h; have h : r = 0 := h; omega
    · rw [if_neg g1] at h
      by_cases g2 : 104 < s
      · rw [if_pos g2] at h; have h : r = 0 := h; omega
      · rw [if_neg g2] at h; have h : r = 1 := h; omega
theorem q_isDayAt {s r : Int} (h : f_m_isDayAt s r) : Sq r (cmr s ∨ (50 ≤ s ∧ s ≤ 55)) := by
  unfold f_m_isDayAt at h
  unfold Sq cmr
  by_cases g : s = 46
  · rw [if_pos g] at h; have h : r = 1 := h; omega
  · rw [if_neg g] at h
    obtain ⟨y, hy, -, h⟩ := h
    by_cases g1 : ¬ y = 0
    · rw [if_pos g1] at h
      have := (q_mIn hy).on g1
      have h : r = 1 := h; omega
    · rw [if_neg g1] at h
      have n1 := (q_mIn hy).off (by omega)
      obtain ⟨w, hw, -, h⟩ := h
      by_cases g2 : w = 0
      · rw [if_pos g2] at h
        have := (q_mIn hw).off g2
        have h : r = 0 := h; omega
      · rw [if_neg g2] at h
        have := (q_mIn hw).on g2
        have h : r = 1 := h; omega
def dnum (s : Int) : Int := if s < 50 then 1 else if 55 < s then 1 else s - 48
theorem dnum_r (s : Int) : (dnum s = 1 ∧ ¬ (50 ≤ s ∧ s ≤ 55)) ∨ (50 ≤ s ∧ s ≤ 55 ∧ dnum s = s - 48) := by
  unfold dnum
  split
  · omega
  · split <;> omega
theorem q_dayFault {s n w d r : Int} (hb : (0 ≤ d ∧ d ≤ 7) ∧ (1 ≤ n ∧ n ≤ 7)) (h : f_s_dayFault s n w d r) : r = if n = 1 ∧ ¬ cmr s then 1 else if w < 12 then (if d + n ≤ 7 then 0 else 6) else 4 := by
  have w7 : wr (d + n) = d + n := wr_id ⟨by omega, by omega⟩
  have fin : (if w < 12 then rdb (wr (d + n)) fun z3 => (if z3 ≤ 7 then rtn 0 else rtn 6) else rtn 4) r → r = if w < 12 then (if d + n ≤ 7 then 0 else 6) else 4 := fun h => by
    by_cases g : w < 12
    · rw [if_pos g] at h ⊢
      obtain ⟨z, ez, h⟩ := rdb_g h
      rw [w7] at ez
      rw [ez]
      by_cases g2 : z ≤ 7
      · rw [if_pos g2] at h ⊢; exact h
      · rw [if_neg g2] at h ⊢; exact h
    · rw [if_neg g] at h ⊢; exact h
  unfold f_s_dayFault at h
  by_cases g1 : ¬ n = 1
  · rw [if_pos g1] at h
    rw [if_neg (fun hh => g1 hh.1)]
    exact fin h
  · rw [if_neg g1] at h
    obtain ⟨c, hc, -, h⟩ := h
    have hc := q_isComer hc
    by_cases gc : ¬ c = 0
    · rw [if_pos gc] at h
      rw [if_neg (fun hh => hh.2 (hc.on gc))]
      exact fin h
    · rw [if_neg gc] at h
      rw [if_pos ⟨by omega, hc.off (by omega)⟩]
      exact h
theorem jnk_g {α ρ : Type} {K : α} {f : α → ρ → Prop} {r : ρ} (h : jnk K f r) : ∃ K2 : α, K2 = K ∧ f K2 r := ⟨K, rfl, h⟩
/-- what a day's reading comes to: fault f at place p, or n days for who -/
def DO (N : Nat → Int) (sg : Int → Int) (w day pos f p who n : Int) : Prop :=
  n = dnum (sg pos) ∧ ((f = 1 ∧ p = pos ∧ n = 1 ∧ ¬ cmr (sg pos)) ∨ (f = 4 ∧ p = pos ∧ ¬ (n = 1 ∧ ¬ cmr (sg pos)) ∧ ¬ w < 12) ∨ (f = 6 ∧ p = pos ∧ ¬ (n = 1 ∧ ¬ cmr (sg pos)) ∧ w < 12 ∧ 7 < day + n) ∨
   (((p = pos ∧ n ≤ 1) ∨ (p = pos + 1 ∧ 1 < n)) ∧ ¬ (n = 1 ∧ ¬ cmr (sg pos)) ∧ w < 12 ∧ day + n ≤ 7 ∧ ((f = 1 ∧ ¬ cmr (sg p)) ∨ (f = 7 ∧ cmr (sg p) ∧ ¬ sg p = 46 ∧ ¬ bt (N 78) (sg p - 97) = 1) ∨ (f = 0 ∧ cmr (sg p) ∧ ((sg p = 46 ∧ who = -1) ∨ (¬ sg p = 46 ∧ bt (N 78) (sg p - 97) = 1 ∧ who = sg p - 97))))))
theorem q_dayD {x s pos day w : Int} {N : Nat → Int} {sg : Int → Int} {V J : Nat → Nat → Int} {R : Nat → Nat → Nat} {G : Int → Int → (Nat → Nat → Int) → (Int × (Nat → Nat → Int)) → Prop} {r : Int × (Nat → Nat → Int)} (hw : 0 ≤ w ∧ w ≤ 12) (hd : 0 ≤ day ∧ day ≤ 7) (hp : 0 ≤ pos ∧ pos ≤ 90) (hs : s = sg pos) (hsg : ∀ q y : Int, 0 ≤ q → q ≤ 91 → f_s_signAt q x V J R y → y = sg q) (hsr : ∀ q : Int, -1 ≤ sg q ∧ sg q ≤ 255) (hR : RLz 1 V N)
    (h : dayD x 1 J R G s pos day w V r) : ∃ f p who n : Int, DO N sg w day pos f p who n ∧ ((¬ f = 0 ∧ r = ((-1000) * f - p, V)) ∨ (f = 0 ∧ ∃ V2 : Nat → Nat → Int, f_s_addR who n V J R V2 ∧ FB (fun i k : Nat => (124 ≤ i ∧ i ≤ 125)) V V2 ∧ G n p V2 r)) := by
  have hn := dnum_r s
  unfold dayD at h
  obtain ⟨K1, hK1, h⟩ := jnk_g h
  have h1 : K1 (dnum s) r := by
    unfold dnum
    by_cases g1 : s < 50
    · rw [if_pos g1] at h ⊢; exact h
    · rw [if_neg g1] at h ⊢
      by_cases g2 : 55 < s
      · rw [if_pos g2] at h ⊢; exact h
      · rw [if_neg g2] at h ⊢; exact h
  rw [hK1] at h1
  obtain ⟨fl, hfl, h1⟩ := h1
  have efl := q_dayFault ⟨hd, by omega⟩ hfl
  obtain ⟨K2, hK2, h1⟩ := jnk_g h1
  generalize hnn : dnum s = n at *
  have h2 : ∃ f1 s1 p1 : Int, K2 f1 s1 p1 r ∧ ((¬ fl = 0 ∧ f1 = fl ∧ s1 = s ∧ p1 = pos) ∨ (fl = 0 ∧ n ≤ 1 ∧ f1 = 0 ∧ s1 = s ∧ p1 = pos) ∨ (fl = 0 ∧ 1 < n ∧ p1 = pos + 1 ∧ s1 = sg (pos + 1) ∧ ((f1 = 0 ∧ cmr s1) ∨ (f1 = 1 ∧ ¬ cmr s1)))) := by
    by_cases g1 : ¬ fl = 0
    · rw [if_pos g1] at h1
      exact ⟨_, _, _, h1, Or.inl ⟨g1, rfl, rfl, rfl⟩⟩
    · rw [if_neg g1] at h1
      by_cases g2 : n ≤ 1
      · rw [if_pos g2] at h1
        exact ⟨_, _, _, h1, Or.inr (Or.inl ⟨by omega, g2, by omega, rfl, rfl⟩)⟩
      · rw [if_neg g2] at h1
        obtain ⟨p1, ep1, h1⟩ := rdb_g h1
        rw [wr_id ⟨by omega, by omega⟩] at ep1
        obtain ⟨s1, hs1, h1⟩ := h1
        have es1 := hsg _ _ (by omega) (by omega) hs1
        obtain ⟨c, hc, -, h1⟩ := h1
        have hc := q_isComer hc
        have h1 := jnk_d h1
        rw [← ep1] at es1
        by_cases gc : c = 0
        · rw [if_pos gc] at h1
          exact ⟨_, _, _, h1, Or.inr (Or.inr ⟨by omega, by omega, ep1.symm, es1, Or.inr ⟨rfl, hc.off gc⟩⟩)⟩
        · rw [if_neg gc] at h1
          exact ⟨_, _, _, h1, Or.inr (Or.inr ⟨by omega, by omega, ep1.symm, es1, Or.inl ⟨rfl, hc.on gc⟩⟩)⟩
  obtain ⟨f1, s1, p1, h2, c2⟩ := h2
  rw [hK2] at h2
  obtain ⟨K3, hK3, h2⟩ := jnk_g h2
  have hsr1 := hsr pos
  have hsr2 := hsr (pos + 1)
  have s1r : -1 ≤ s1 ∧ s1 ≤ 255 := by omega
  have pr : 0 ≤ p1 ∧ p1 ≤ 91 := by omega
  have h3 : ∃ f : Int, K3 f r ∧ ((¬ f1 = 0 ∧ f = f1) ∨ (f1 = 0 ∧ s1 = 46 ∧ f = 0) ∨ (f1 = 0 ∧ ¬ s1 = 46 ∧ ((f = 0 ∧ 0 ≤ s1 - 97 ∧ s1 - 97 < 8 ∧ bt (N 78) (s1 - 97) = 1) ∨ (f = 7 ∧ ¬ (0 ≤ s1 - 97 ∧ s1 - 97 < 8 ∧ bt (N 78) (s1 - 97) = 1))))) := by
    by_cases g1 : ¬ f1 = 0
    · rw [if_pos g1] at h2
      exact ⟨_, h2, Or.inl ⟨g1, rfl⟩⟩
    · rw [if_neg g1] at h2
      by_cases g2 : s1 = 46
      · rw [if_pos g2] at h2
        exact ⟨_, h2, Or.inr (Or.inl ⟨by omega, g2, by omega⟩)⟩
      · rw [if_neg g2] at h2
        obtain ⟨q, eq, h2⟩ := rdb_g h2
        rw [wr_id ⟨by omega, by omega⟩] at eq
        obtain ⟨y, hy, -, h2⟩ := h2
        have hy := q_sPerson hy
        have hi := hR.isPe (x := q)
        rw [← eq] at hi hy
        by_cases gy : ¬ y = 0
        · rw [if_pos gy] at h2
          exact ⟨_, h2, Or.inr (Or.inr ⟨by omega, g2, Or.inl ⟨by omega, hi.mp (hy.on gy)⟩⟩)⟩
        · rw [if_neg gy] at h2
          exact ⟨_, h2, Or.inr (Or.inr ⟨by omega, g2, Or.inr ⟨rfl, fun hh => hy.off (by omega) (hi.mpr hh)⟩⟩)⟩
  obtain ⟨f, h3, c3⟩ := h3
  rw [hK3] at h3
  have res : ∃ who : Int, ((¬ f = 0 ∧ r = ((-1000) * f - p1, V)) ∨ (f = 0 ∧ ∃ V2 : Nat → Nat → Int, f_s_addR who n V J R V2 ∧ FB (fun i k : Nat => (124 ≤ i ∧ i ≤ 125)) V V2 ∧ G n p1 V2 r)) ∧ (f = 0 → (s1 = 46 ∧ who = -1) ∨ (¬ s1 = 46 ∧ who = s1 - 97)) := by
    have fr : f = 0 ∨ f = 1 ∨ f = 4 ∨ f = 6 ∨ f = 7 := by
      rcases c3 with ⟨a, b⟩ | ⟨a, b, c⟩ | ⟨a, b, c⟩
      · rcases c2 with ⟨d, e, -⟩ | ⟨-, -, d, -⟩ | ⟨-, -, -, -, d⟩
        · rw [e] at b
          rw [efl] at b
          by_cases g1 : n = 1 ∧ ¬ cmr s
          · rw [if_pos g1] at b; omega
          · rw [if_neg g1] at b
            by_cases g2 : w < 12
            · rw [if_pos g2] at b
              by_cases g3 : day + n ≤ 7
              · rw [if_pos g3] at b; omega
              · rw [if_neg g3] at b; omega
            · rw [if_neg g2] at b; omega
        · omega
        · omega
      · omega
      · omega
    by_cases gf : f = 0
    · rw [if_pos gf] at h3
      obtain ⟨K4, hK4, h3⟩ := jnk_g h3
      by_cases g1 : ¬ s1 = 46
      · rw [if_pos g1] at h3
        obtain ⟨q, eq, h3⟩ := rdb_g h3
        rw [wr_id ⟨by omega, by omega⟩] at eq
        rw [hK4] at h3
        obtain ⟨V2, k2, F2, h3⟩ := h3
        exact ⟨q, Or.inr ⟨gf, V2, k2, F2, h3⟩, fun _ => Or.inr ⟨g1, eq.symm⟩⟩
      · rw [if_neg g1, hK4] at h3
        obtain ⟨V2, k2, F2, h3⟩ := h3
        exact ⟨-1, Or.inr ⟨gf, V2, k2, F2, h3⟩, fun _ => Or.inl ⟨by omega, rfl⟩⟩
    · rw [if_neg gf] at h3
      obtain ⟨t1, et1, h3⟩ := rdb_g h3
      obtain ⟨t2, et2, h3⟩ := rdb_g h3
      rw [wr_id ⟨by omega, by omega⟩] at et1
      rw [← et1, wr_id ⟨by omega, by omega⟩] at et2
      refine ⟨0, Or.inl ⟨gf, ?_⟩, fun hh => absurd hh gf⟩
      rw [et2]
      exact h3
  obtain ⟨who, res, hwho⟩ := res
  refine ⟨f, p1, who, n, ⟨by rw [← hs]; exact hnn.symm, ?_⟩, res⟩
  rw [← hs]
  by_cases g1 : n = 1 ∧ ¬ cmr s
  · rw [if_pos g1] at efl
    exact Or.inl ⟨by omega, by omega, g1.1, g1.2⟩
  · rw [if_neg g1] at efl
    by_cases g2 : w < 12
    · rw [if_pos g2] at efl
      by_cases g3 : day + n ≤ 7
      · rw [if_pos g3] at efl
        refine Or.inr (Or.inr (Or.inr ⟨by omega, g1, g2, g3, ?_⟩))
        have cs : cmr s1 ∨ (f1 = 1 ∧ ¬ cmr s1) := by
          rcases c2 with ⟨a, -⟩ | ⟨-, a, -, b, -⟩ | ⟨-, -, -, -, a | a⟩
          · omega
          · refine Or.inl ?_
            rw [b]
            by_cases gc : cmr s
            · exact gc
            · exact absurd ⟨by omega, gc⟩ g1
          · exact Or.inl a.2
          · exact Or.inr a
        have sp : sg p1 = s1 := by
          rcases c2 with ⟨a, -⟩ | ⟨-, -, -, b, c⟩ | ⟨-, -, b, c, -⟩
          · omega
          · rw [c, ← hs, b]
          · rw [b, c]
        rw [sp]
        rcases c3 with ⟨a, b⟩ | ⟨a, b, c⟩ | ⟨a, b, c⟩
        · have f11 : f1 = 1 ∧ ¬ cmr s1 := by
            rcases c2 with ⟨a2, -⟩ | ⟨-, -, a2, -⟩ | ⟨-, -, -, -, a2 | a2⟩
            · omega
            · omega
            · omega
            · exact a2
          exact Or.inl ⟨by omega, f11.2⟩
        · exact Or.inr (Or.inr ⟨c, Or.inl b, Or.inl ⟨b, by
            rcases hwho c with k | k
            · exact k.2
            · exact absurd b k.1⟩⟩)
        · rcases cs with cs | cs
          · rcases c with ⟨c, d⟩ | ⟨c, d⟩
            · refine Or.inr (Or.inr ⟨c, cs, Or.inr ⟨b, d.2.2, ?_⟩⟩)
              rcases hwho c with k | k
              · exact absurd k.1 b
              · exact k.2
            · refine Or.inr (Or.inl ⟨c, cs, b, fun hh => d ⟨by omega, by omega, hh⟩⟩)
          · omega
      · rw [if_neg g3] at efl
        exact Or.inr (Or.inr (Or.inl ⟨by omega, by omega, g1, g2, by omega⟩))
    · rw [if_neg g2] at efl
      exact Or.inr (Or.inl ⟨by omega, by omega, g1, g2⟩)
