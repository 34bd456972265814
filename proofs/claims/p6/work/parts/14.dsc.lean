def xdL (b r : Nat) : xD := if r = 0 then .inl (3, [b + 4, b + 5, 0, 0, 0, 0, 0, 0]) else if r = 1 then .inr (4, 4, 3, b + 3, 2) else if r = 2 then .inr (5, 8, 3, b + 11, 1) else if r < 11 then (if (r - 3) % 2 = 0 then .inl (5, [0, 0, 0, 0, 0, 0, 0, 0, b + r + 4]) else .inr (0, 7, 0, 0, 0)) else .inl (4, [0, 0, 0, 0])
def xdT (t r : Nat) : xD := if r = 0 then .inl (9, [t + 4, 0, t + 5, t + 6, t + 7, 0]) else if r = 1 then .inr (0, 200, 0, 0, 0) else if r = 2 then .inr (3, 14, 0, 0, 0) else if r = 3 then .inr (0, 15, 0, 0, 0) else .inr (0, 14, 0, 0, 0)
def xdsc (i : Nat) : xD :=
  if i = 0 then .inl (11, [1 + 3, 20 + 3, 39 + 3, 0, 58 + 3, 60 + 3, 98 + 3, 105 + 3, 124 + 3, 126 + 3, 127 + 3, 128 + 3])
  else if i < 58 then xdL (1 + 19 * ((i - 1) / 19)) ((i - 1) % 19)
  else if i = 58 then .inl (8, [59 + 3, 0])
  else if i = 59 then .inr (0, 220, 0, 0, 0)
  else if i = 60 then .inl (1, [2, 66 + 3, 67 + 3, 68 + 3, 69 + 3, 72 + 3])
  else if i < 66 then xdT 61 (i - 61)
  else if i = 66 then .inr (6, 4, 2, 0, 0)
  else if i < 69 then .inr (0, 6, 0, 0, 0)
  else if i = 69 then .inl (0, [70 + 3, 71 + 3, 0, 0])
  else if i = 70 then .inr (0, 26, 0, 0, 0)
  else if i = 71 then .inr (0, 40, 0, 0, 0)
  else if i = 72 then .inl (6, [58 + 3, 2, 0, 0, 0, 0])
  else if i < 98 then xdT (73 + 5 * ((i - 73) / 5)) ((i - 73) % 5)
  else if i = 98 then .inl (2, [2, 2, 2, 2, 0, 0, 103 + 3, 104 + 3, 0, 0, 0, 0, 0, 0, 0, 0, 1])
  else if i < 101 then .inr (1, 475, 1, 0, 0)
  else if i < 103 then .inr (0, 475, 0, 0, 0)
  else if i < 105 then .inr (0, 3, 0, 0, 0)
  else if i = 105 then .inl (10, [106 + 3, 107 + 3, 108 + 3, 109 + 3, 0, 0, 0, 0])
  else if i = 106 then .inr (4, 7, 3, 110, 2)
  else if i = 107 then .inr (0, 3, 0, 0, 0)
  else if i < 110 then .inr (0, 7, 0, 0, 0)
  else if i < 124 then (if i % 2 = 0 then .inl (5, [0, 0, 0, 0, 0, 0, 0, 0, i + 4]) else .inr (0, 7, 0, 0, 0))
  else if i = 124 then .inl (7, [125 + 3, 0])
  else if i = 125 then .inr (0, 84, 0, 0, 0)
  else if i = 126 then .inr (0, 100, 0, 0, 0)
  else if i = 127 then .inr (0, 4, 0, 0, 0)
  else .inr (1, 13, 1, 0, 0)
abbrev isLa (b : Nat) : Prop := b = 1 ∨ b = 20 ∨ b = 39
theorem xd_L {b : Nat} (hb : isLa b) : xdsc b = .inl (3, [b + 4, b + 5, 0, 0, 0, 0, 0, 0]) := by rcases hb with rfl | rfl | rfl <;> rfl
theorem xd_La {b : Nat} (hb : isLa b) : xdsc (b + 1) = .inr (4, 4, 3, b + 3, 2) := by rcases hb with rfl | rfl | rfl <;> rfl
theorem xd_Lb {b : Nat} (hb : isLa b) : xdsc (b + 2) = .inr (5, 8, 3, b + 11, 1) := by rcases hb with rfl | rfl | rfl <;> rfl
theorem xd_P {b l : Nat} (hb : isLa b) (hl : l < 4) : xdsc (b + 3 + 2 * l) = .inl (5, [0, 0, 0, 0, 0, 0, 0, 0, b + 3 + 2 * l + 4]) := by
  have : l = 0 ∨ l = 1 ∨ l = 2 ∨ l = 3 := by omega
  rcases hb with rfl | rfl | rfl <;> rcases this with rfl | rfl | rfl | rfl <;> rfl
theorem xd_Pk {b l : Nat} (hb : isLa b) (hl : l < 4) : xdsc (b + 3 + 2 * l + 1) = .inr (0, 7, 0, 0, 0) := by
  have : l = 0 ∨ l = 1 ∨ l = 2 ∨ l = 3 := by omega
  rcases hb with rfl | rfl | rfl <;> rcases this with rfl | rfl | rfl | rfl <;> rfl
theorem xd_E {b q : Nat} (hb : isLa b) (hq : q < 8) : xdsc (b + 11 + 1 * q) = .inl (4, [0, 0, 0, 0]) := by
  have : q = 0 ∨ q = 1 ∨ q = 2 ∨ q = 3 ∨ q = 4 ∨ q = 5 ∨ q = 6 ∨ q = 7 := by omega
  rcases hb with rfl | rfl | rfl <;> rcases this with rfl | rfl | rfl | rfl | rfl | rfl | rfl | rfl <;> rfl
/-- a plant's two cells -/
abbrev isPl (c : Nat) : Prop := c + 1 < 129 ∧ xdsc c = .inl (5, [0, 0, 0, 0, 0, 0, 0, 0, c + 4]) ∧ xdsc (c + 1) = .inr (0, 7, 0, 0, 0)
theorem isPl_L {b l : Nat} (hb : isLa b) (hl : l < 4) : isPl (b + 3 + 2 * l) := ⟨by omega, xd_P hb hl, xd_Pk hb hl⟩
abbrev isPe (c : Nat) : Prop := c < 129 ∧ xdsc c = .inl (4, [0, 0, 0, 0])
theorem isPe_L {b q : Nat} (hb : isLa b) (hq : q < 8) : isPe (b + 11 + 1 * q) := ⟨by omega, xd_E hb hq⟩
abbrev isTx (t : Nat) : Prop := t = 61 ∨ t = 73 ∨ t = 78 ∨ t = 83 ∨ t = 88 ∨ t = 93
theorem xd_T {t : Nat} (ht : isTx t) : xdsc t = .inl (9, [t + 4, 0, t + 5, t + 6, t + 7, 0]) := by rcases ht with rfl | rfl | rfl | rfl | rfl | rfl <;> rfl
theorem xd_T1 {t : Nat} (ht : isTx t) : xdsc (t + 1) = .inr (0, 200, 0, 0, 0) := by rcases ht with rfl | rfl | rfl | rfl | rfl | rfl <;> rfl
theorem xd_T2 {t : Nat} (ht : isTx t) : xdsc (t + 2) = .inr (3, 14, 0, 0, 0) := by rcases ht with rfl | rfl | rfl | rfl | rfl | rfl <;> rfl
theorem xd_T3 {t : Nat} (ht : isTx t) : xdsc (t + 3) = .inr (0, 15, 0, 0, 0) := by rcases ht with rfl | rfl | rfl | rfl | rfl | rfl <;> rfl
theorem xd_T4 {t : Nat} (ht : isTx t) : xdsc (t + 4) = .inr (0, 14, 0, 0, 0) := by rcases ht with rfl | rfl | rfl | rfl | rfl | rfl <;> rfl
abbrev XW (cy : Nat → ClassId) (ad : Nat → Nat) (V J : Nat → Nat → Int) (Rr : Nat → Nat → Nat) : va_W := xw 129 xdsc cy ad V J Rr
def mdsc (i : Nat) : xD :=
  if i = 0 then .inl (12, [1 + 3, 2 + 3, 3 + 3, 4 + 3, 0, 0, 0, 0, 0, 0, 0, 0, 0, 5 + 3, 6 + 3, 7 + 3, 8 + 3, 9 + 3, 10 + 3, 11 + 3, 12 + 3, 13 + 3, 14 + 3, 15 + 3, 16 + 3, 17 + 3, 18 + 3, 0, 0, 0, 19 + 3, 0, 0, 0, 0, 20 + 3, 21 + 3, 22 + 3, 23 + 3, 1, 24 + 3, 25 + 3, 26 + 3, 27 + 3, 28 + 3, 29 + 3, 0, 0, 30 + 3, 0, 0, 31 + 3, 32 + 3, 0])
  else if i = 1 then .inr (0, 81, 0, 0, 0)
  else if i = 2 then .inr (0, 81, 0, 0, 0)
  else if i = 3 then .inr (0, 81, 0, 0, 0)
  else if i = 4 then .inr (2, 220, 0, 0, 0)
  else if i = 5 then .inr (0, 220, 0, 0, 0)
  else if i = 6 then .inr (0, 220, 0, 0, 0)
  else if i = 7 then .inr (0, 14, 0, 0, 0)
  else if i = 8 then .inr (0, 14, 0, 0, 0)
  else if i = 9 then .inr (0, 14, 0, 0, 0)
  else if i = 10 then .inr (0, 14, 0, 0, 0)
  else if i = 11 then .inr (0, 1100, 0, 0, 0)
  else if i = 12 then .inr (0, 5, 0, 0, 0)
  else if i = 13 then .inr (0, 70, 0, 0, 0)
  else if i = 14 then .inr (0, 70, 0, 0, 0)
  else if i = 15 then .inr (0, 70, 0, 0, 0)
  else if i = 16 then .inr (0, 70, 0, 0, 0)
  else if i = 17 then .inr (0, 220, 0, 0, 0)
  else if i = 18 then .inr (0, 13, 0, 0, 0)
  else if i = 19 then .inr (0, 8, 0, 0, 0)
  else if i = 20 then .inr (0, 8, 0, 0, 0)
  else if i = 21 then .inr (0, 8, 0, 0, 0)
  else if i = 22 then .inr (1, 500, 1, 0, 0)
  else if i = 23 then .inr (1, 500, 1, 0, 0)
  else if i = 24 then .inr (1, 25, 1, 0, 0)
  else if i = 25 then .inr (1, 25, 1, 0, 0)
  else if i = 26 then .inr (0, 100, 0, 0, 0)
  else if i = 27 then .inr (0, 4, 0, 0, 0)
  else if i = 28 then .inr (0, 4, 0, 0, 0)
  else if i = 29 then .inr (1, 13, 1, 0, 0)
  else if i = 30 then .inr (0, 84, 0, 0, 0)
  else if i = 31 then .inr (0, 6, 0, 0, 0)
  else if i = 32 then .inr (0, 6, 0, 0, 0)
  else .inr (0, 0, 0, 0, 0)
abbrev MW (cy : Nat → ClassId) (ad : Nat → Nat) (V J : Nat → Nat → Int) (Rr : Nat → Nat → Nat) : va_W := xw 33 mdsc cy ad V J Rr
abbrev VR (V : Nat → Nat → Int) : Prop := ∀ i k, R32 (V i k)
abbrev VJ (J : Nat → Nat → Int) : Prop := ∀ i k, R64 (J i k)
theorem VR_up {V : Nat → Nat → Int} {i k : Nat} {a : Int} (h : VR V) (ha : R32 a) : VR (up2 V i k a) := by
  intro j q
  unfold up2 up1
  split
  · dsimp only
    split
    · exact ha
    · exact h _ _
  · exact h _ _
theorem VJ_up {V : Nat → Nat → Int} {i k : Nat} {a : Int} (h : VJ V) (ha : R64 a) : VJ (up2 V i k a) := by
  intro j q
  unfold up2 up1
  split
  · dsimp only
    split
    · exact ha
    · exact h _ _
  · exact h _ _
theorem x64 {a : Int} (h : R32 a) : R64 a := ⟨by omega, by omega⟩
theorem z_nar {a : Int} (h : a = 0 ∨ a = 1) : narrow .boolean (vI a) = vI a := by rcases h with rfl | rfl <;> decide
abbrev xS : Type := (Nat → Nat → Int) × (Nat → Nat → Int) × (Nat → Nat → Nat)
theorem vc_X0 : vwCl[0]? = some (RX0, TX0, 4) := rfl
theorem vc_X1 : vwCl[1]? = some (RX1, TX1, 6) := rfl
theorem vc_X2 : vwCl[2]? = some (RX2, TX2, 17) := rfl
theorem vc_X3 : vwCl[3]? = some (RX3, TX3, 8) := rfl
theorem vc_X4 : vwCl[4]? = some (RX4, TX4, 4) := rfl
theorem vc_X5 : vwCl[5]? = some (RX5, TX5, 9) := rfl
theorem vc_X6 : vwCl[6]? = some (RX6, TX6, 6) := rfl
theorem vc_X7 : vwCl[7]? = some (RX7, TX7, 2) := rfl
theorem vc_X8 : vwCl[8]? = some (RX8, TX8, 2) := rfl
theorem vc_X9 : vwCl[9]? = some (RX9, TX9, 6) := rfl
theorem vc_X10 : vwCl[10]? = some (RX10, TX10, 8) := rfl
theorem vc_X11 : vwCl[11]? = some (RX11, TX11, 12) := rfl
theorem vc_X12 : vwCl[12]? = some (RX12, TX12, 54) := rfl
