def tcX (k : Nat) : Nat := if k = 0 then 0 else if k = 1 then 1 else if k < 10 then 2 else if k = 10 then 3 else if k < 107 then 4 + (k - 11) % 4 else if k = 107 then 8 else if k < 114 then 9 else if k = 114 then 10 else if k < 179 then 11 else if k = 179 then 12 else if k < 183 then 13 + (k - 180) else 16
def tiX (k : Nat) : Nat := if k < 2 then 0 else if k < 10 then k - 2 else if k = 10 then 0 else if k < 107 then (k - 11) / 4 else if k = 107 then 0 else if k < 114 then k - 108 else if k = 114 then 0 else if k < 179 then k - 115 else 0
def plX (kc ki : Nat) : Nat := match kc with
  | 0 => 0
  | 1 => 1
  | 2 => 2 + ki
  | 3 => 10
  | 4 => 11 + 4 * ki
  | 5 => 12 + 4 * ki
  | 6 => 13 + 4 * ki
  | 7 => 14 + 4 * ki
  | 8 => 107
  | 9 => 108 + ki
  | 10 => 114
  | 11 => 115 + ki
  | 12 => 179
  | 13 => 180
  | 14 => 181
  | 15 => 182
  | _ => 183
def cfX (ar : Nat → ClassId) (b kc ki : Nat) (f : Nat → Int32) (g : Nat → Int64) : va_E := match kc with
  | 0 => .inr (0, [.ref (b + plX 1 0), .ref (b + plX 3 0), .ref (b + plX 8 0), .ref (b + plX 10 0), .ref (b + plX 12 0), .ref (b + plX 16 0), .int (f 6), .int (f 7), .int (f 8), .int (f 9)])
  | 1 => .inl (ar 3, 8, .inr (.inr (.inr (.inr (fun q => if q < 8 then some (b + plX 2 q) else none)))))
  | 2 => .inl (ar 0, 8, .inl f)
  | 3 => .inl (ar 4, 24, .inr (.inr (.inr (.inr (fun q => if q < 24 then some (b + plX 4 q) else none)))))
  | 4 => .inr (4, [.int (f 0), .int (f 1), .int (f 2), .int (f 3), .int (f 4), .int (f 5), .int (f 6), .int (f 7), .int (f 8), .int (f 9), .int (f 10), .ref (b + plX 5 ki), .ref (b + plX 6 ki), .ref (b + plX 7 ki)])
  | 5 => .inl (ar 0, 8, .inl f)
  | 6 => .inl (ar 0, 6, .inl f)
  | 7 => .inl (ar 0, 6, .inl f)
  | 8 => .inl (ar 5, 6, .inr (.inr (.inr (.inr (fun q => if q < 6 then some (b + plX 9 q) else none)))))
  | 9 => .inr (2, [.int (f 0), .int (f 1), .int (f 2), .int (f 3), .int (f 4), .int (f 5), .int (f 6), .int (f 7), .int (f 8), .int (f 9), .int (f 10), .int (f 11), .int (f 12), .int (f 13)])
  | 10 => .inl (ar 6, 64, .inr (.inr (.inr (.inr (fun q => if q < 64 then some (b + plX 11 q) else none)))))
  | 11 => .inr (3, [.int (f 0), .int (f 1), .int (f 2), .int (f 3), .int (f 4), .int (f 5), .int (f 6)])
  | 12 => .inr (1, [.ref (b + plX 13 0), .ref (b + plX 14 0), .ref (b + plX 15 0), .int (f 3)])
  | 13 => .inl (ar 0, 70, .inl f)
  | 14 => .inl (ar 0, 70, .inl f)
  | 15 => .inl (ar 0, 70, .inl f)
  | 16 => .inl (ar 1, 16, .inr (.inl g))
  | _ => .inr (0, [])
def LX : Ly := (184, tcX, tiX, plX, cfX)
theorem plX_all : ∀ k, k < 184 → plX (tcX k) (tiX k) = k := by decide +kernel
theorem okX_of {kc ki : Nat} (h : plX kc ki < 184 ∧ tcX (plX kc ki) = kc ∧ tiX (plX kc ki) = ki) : okL LX kc ki := ⟨h.1, h.2.1, h.2.2, fun k hk h1 h2 => by
  have h9 := plX_all k hk
  have e1 : tcX k = kc := h1
  have e2 : tiX k = ki := h2
  rw [e1, e2] at h9
  exact h9.symm⟩
theorem okX0 : okL LX 0 0 := okX_of (by decide)
theorem okX1 : okL LX 1 0 := okX_of (by decide)
theorem kX2 : ∀ i, i < 8 → (plX 2 i < 184 ∧ tcX (plX 2 i) = 2 ∧ tiX (plX 2 i) = i) := by decide +kernel
theorem okX2 {i : Nat} (h : i < 8) : okL LX 2 i := okX_of (kX2 i h)
theorem okX3 : okL LX 3 0 := okX_of (by decide)
theorem kX4 : ∀ i, i < 24 → (plX 4 i < 184 ∧ tcX (plX 4 i) = 4 ∧ tiX (plX 4 i) = i) := by decide +kernel
theorem okX4 {i : Nat} (h : i < 24) : okL LX 4 i := okX_of (kX4 i h)
theorem kX5 : ∀ i, i < 24 → (plX 5 i < 184 ∧ tcX (plX 5 i) = 5 ∧ tiX (plX 5 i) = i) := by decide +kernel
theorem okX5 {i : Nat} (h : i < 24) : okL LX 5 i := okX_of (kX5 i h)
theorem kX6 : ∀ i, i < 24 → (plX 6 i < 184 ∧ tcX (plX 6 i) = 6 ∧ tiX (plX 6 i) = i) := by decide +kernel
theorem okX6 {i : Nat} (h : i < 24) : okL LX 6 i := okX_of (kX6 i h)
theorem kX7 : ∀ i, i < 24 → (plX 7 i < 184 ∧ tcX (plX 7 i) = 7 ∧ tiX (plX 7 i) = i) := by decide +kernel
theorem okX7 {i : Nat} (h : i < 24) : okL LX 7 i := okX_of (kX7 i h)
theorem okX8 : okL LX 8 0 := okX_of (by decide)
theorem kX9 : ∀ i, i < 6 → (plX 9 i < 184 ∧ tcX (plX 9 i) = 9 ∧ tiX (plX 9 i) = i) := by decide +kernel
theorem okX9 {i : Nat} (h : i < 6) : okL LX 9 i := okX_of (kX9 i h)
theorem okX10 : okL LX 10 0 := okX_of (by decide)
theorem kX11 : ∀ i, i < 64 → (plX 11 i < 184 ∧ tcX (plX 11 i) = 11 ∧ tiX (plX 11 i) = i) := by decide +kernel
theorem okX11 {i : Nat} (h : i < 64) : okL LX 11 i := okX_of (kX11 i h)
theorem okX12 : okL LX 12 0 := okX_of (by decide)
theorem okX13 : okL LX 13 0 := okX_of (by decide)
theorem okX14 : okL LX 14 0 := okX_of (by decide)
theorem okX15 : okL LX 15 0 := okX_of (by decide)
theorem okX16 : okL LX 16 0 := okX_of (by decide)
theorem lnX : lnL LX 16 := ⟨okX16, (by decide +kernel : ∀ k, k < 184 → tcX k = 16 → tiX k = 0), fun ar b kc ki f g g1 h => match kc, h with
  | 0, _ => rfl
  | 1, _ => rfl
  | 2, _ => rfl
  | 3, _ => rfl
  | 4, _ => rfl
  | 5, _ => rfl
  | 6, _ => rfl
  | 7, _ => rfl
  | 8, _ => rfl
  | 9, _ => rfl
  | 10, _ => rfl
  | 11, _ => rfl
  | 12, _ => rfl
  | 13, _ => rfl
  | 14, _ => rfl
  | 15, _ => rfl
  | 16, h => absurd rfl h
  | (n + 17), _ => rfl⟩
def tcY (k : Nat) : Nat := k
def tiY (_ : Nat) : Nat := 0
def plY (kc _ : Nat) : Nat := kc
def cfY (ar : Nat → ClassId) (b kc ki : Nat) (f : Nat → Int32) (g : Nat → Int64) : va_E := match kc with
  | 0 => .inr (5, [.int (f 0), .ref (b + plY 1 0), .ref (b + plY 2 0), .ref (b + plY 3 0), .ref (b + plY 4 0), .ref (b + plY 5 0), .ref (b + plY 6 0), .ref (b + plY 7 0), .ref (b + plY 8 0), .int (f 9), .ref (b + plY 9 0), .ref (b + plY 10 0), .ref (b + plY 11 0), .ref (b + plY 12 0), .ref (b + plY 13 0), .ref (b + plY 14 0), .ref (b + plY 15 0), .ref (b + plY 16 0), .ref (b + plY 17 0), .ref (b + plY 18 0), .ref (b + plY 19 0), .ref (b + plY 20 0), .ref (b + plY 21 0), .ref (b + plY 22 0), .ref (b + plY 23 0), .ref (b + plY 24 0), .ref (b + plY 25 0), .ref (b + plY 26 0), .ref (b + plY 27 0), .ref (b + plY 28 0), .ref (b + plY 29 0), .ref (b + plY 30 0), .ref (b + plY 31 0), .ref (b + plY 32 0), .ref (b + plY 33 0), .int (f 35), .int (f 36), .int (f 37), .int (f 38), .ref (b + plY 34 0)])
  | 1 => .inl (ar 0, 12, .inl f)
  | 2 => .inl (ar 0, 12, .inl f)
  | 3 => .inl (ar 0, 12, .inl f)
  | 4 => .inl (ar 0, 12, .inl f)
  | 5 => .inl (ar 0, 12, .inl f)
  | 6 => .inl (ar 0, 24, .inl f)
  | 7 => .inl (ar 0, 24, .inl f)
  | 8 => .inl (ar 0, 64, .inl f)
  | 9 => .inl (ar 0, 6, .inl f)
  | 10 => .inl (ar 0, 6, .inl f)
  | 11 => .inl (ar 0, 6, .inl f)
  | 12 => .inl (ar 0, 6, .inl f)
  | 13 => .inl (ar 0, 6, .inl f)
  | 14 => .inl (ar 0, 6, .inl f)
  | 15 => .inl (ar 0, 6, .inl f)
  | 16 => .inl (ar 0, 6, .inl f)
  | 17 => .inl (ar 0, 6, .inl f)
  | 18 => .inl (ar 0, 6, .inl f)
  | 19 => .inl (ar 0, 6, .inl f)
  | 20 => .inl (ar 0, 6, .inl f)
  | 21 => .inl (ar 0, 6, .inl f)
  | 22 => .inl (ar 0, 6, .inl f)
  | 23 => .inl (ar 0, 24, .inl f)
  | 24 => .inl (ar 0, 64, .inl f)
  | 25 => .inl (ar 0, 64, .inl f)
  | 26 => .inl (ar 0, 64, .inl f)
  | 27 => .inl (ar 2, 64, .inl f)
  | 28 => .inl (ar 0, 64, .inl f)
  | 29 => .inl (ar 0, 64, .inl f)
  | 30 => .inl (ar 0, 64, .inl f)
  | 31 => .inl (ar 0, 144, .inl f)
  | 32 => .inl (ar 0, 144, .inl f)
  | 33 => .inl (ar 2, 144, .inl f)
  | 34 => .inl (ar 1, 16, .inr (.inl g))
  | _ => .inr (0, [])
def LY : Ly := (35, tcY, tiY, plY, cfY)
theorem okY0 : okL LY 0 0 := ⟨by decide, rfl, rfl, fun k _ h1 _ => h1⟩
theorem okY1 : okL LY 1 0 := ⟨by decide, rfl, rfl, fun k _ h1 _ => h1⟩
theorem okY2 : okL LY 2 0 := ⟨by decide, rfl, rfl, fun k _ h1 _ => h1⟩
theorem okY3 : okL LY 3 0 := ⟨by decide, rfl, rfl, fun k _ h1 _ => h1⟩
theorem okY4 : okL LY 4 0 := ⟨by decide, rfl, rfl, fun k _ h1 _ => h1⟩
theorem okY5 : okL LY 5 0 := ⟨by decide, rfl, rfl, fun k _ h1 _ => h1⟩
theorem okY6 : okL LY 6 0 := ⟨by decide, rfl, rfl, fun k _ h1 _ => h1⟩
theorem okY7 : okL LY 7 0 := ⟨by decide, rfl, rfl, fun k _ h1 _ => h1⟩
theorem okY8 : okL LY 8 0 := ⟨by decide, rfl, rfl, fun k _ h1 _ => h1⟩
theorem okY9 : okL LY 9 0 := ⟨by decide, rfl, rfl, fun k _ h1 _ => h1⟩
theorem okY10 : okL LY 10 0 := ⟨by decide, rfl, rfl, fun k _ h1 _ => h1⟩
theorem okY11 : okL LY 11 0 := ⟨by decide, rfl, rfl, fun k _ h1 _ => h1⟩
theorem okY12 : okL LY 12 0 := ⟨by decide, rfl, rfl, fun k _ h1 _ => h1⟩
theorem okY13 : okL LY 13 0 := ⟨by decide, rfl, rfl, fun k _ h1 _ => h1⟩
theorem okY14 : okL LY 14 0 := ⟨by decide, rfl, rfl, fun k _ h1 _ => h1⟩
theorem okY15 : okL LY 15 0 := ⟨by decide, rfl, rfl, fun k _ h1 _ => h1⟩
theorem okY16 : okL LY 16 0 := ⟨by decide, rfl, rfl, fun k _ h1 _ => h1⟩
theorem okY17 : okL LY 17 0 := ⟨by decide, rfl, rfl, fun k _ h1 _ => h1⟩
theorem okY18 : okL LY 18 0 := ⟨by decide, rfl, rfl, fun k _ h1 _ => h1⟩
theorem okY19 : okL LY 19 0 := ⟨by decide, rfl, rfl, fun k _ h1 _ => h1⟩
theorem okY20 : okL LY 20 0 := ⟨by decide, rfl, rfl, fun k _ h1 _ => h1⟩
theorem okY21 : okL LY 21 0 := ⟨by decide, rfl, rfl, fun k _ h1 _ => h1⟩
theorem okY22 : okL LY 22 0 := ⟨by decide, rfl, rfl, fun k _ h1 _ => h1⟩
theorem okY23 : okL LY 23 0 := ⟨by decide, rfl, rfl, fun k _ h1 _ => h1⟩
theorem okY24 : okL LY 24 0 := ⟨by decide, rfl, rfl, fun k _ h1 _ => h1⟩
theorem okY25 : okL LY 25 0 := ⟨by decide, rfl, rfl, fun k _ h1 _ => h1⟩
theorem okY26 : okL LY 26 0 := ⟨by decide, rfl, rfl, fun k _ h1 _ => h1⟩
theorem okY27 : okL LY 27 0 := ⟨by decide, rfl, rfl, fun k _ h1 _ => h1⟩
theorem okY28 : okL LY 28 0 := ⟨by decide, rfl, rfl, fun k _ h1 _ => h1⟩
theorem okY29 : okL LY 29 0 := ⟨by decide, rfl, rfl, fun k _ h1 _ => h1⟩
theorem okY30 : okL LY 30 0 := ⟨by decide, rfl, rfl, fun k _ h1 _ => h1⟩
theorem okY31 : okL LY 31 0 := ⟨by decide, rfl, rfl, fun k _ h1 _ => h1⟩
theorem okY32 : okL LY 32 0 := ⟨by decide, rfl, rfl, fun k _ h1 _ => h1⟩
theorem okY33 : okL LY 33 0 := ⟨by decide, rfl, rfl, fun k _ h1 _ => h1⟩
theorem okY34 : okL LY 34 0 := ⟨by decide, rfl, rfl, fun k _ h1 _ => h1⟩
theorem lnY : lnL LY 34 := ⟨okY34, (by decide +kernel : ∀ k, k < 35 → tcY k = 34 → tiY k = 0), fun ar b kc ki f g g1 h => match kc, h with
  | 0, _ => rfl
  | 1, _ => rfl
  | 2, _ => rfl
  | 3, _ => rfl
  | 4, _ => rfl
  | 5, _ => rfl
  | 6, _ => rfl
  | 7, _ => rfl
  | 8, _ => rfl
  | 9, _ => rfl
  | 10, _ => rfl
  | 11, _ => rfl
  | 12, _ => rfl
  | 13, _ => rfl
  | 14, _ => rfl
  | 15, _ => rfl
  | 16, _ => rfl
  | 17, _ => rfl
  | 18, _ => rfl
  | 19, _ => rfl
  | 20, _ => rfl
  | 21, _ => rfl
  | 22, _ => rfl
  | 23, _ => rfl
  | 24, _ => rfl
  | 25, _ => rfl
  | 26, _ => rfl
  | 27, _ => rfl
  | 28, _ => rfl
  | 29, _ => rfl
  | 30, _ => rfl
  | 31, _ => rfl
  | 32, _ => rfl
  | 33, _ => rfl
  | 34, h => absurd rfl h
  | (n + 35), _ => rfl⟩
