/-! ===== choose ===== -/
def agS (z : MemI) (s : Nat) (kd tk : Int) : MemI := pN (pN (pN (pN z 13 0 s kd) 14 0 s tk) 15 0 s (z.1 12 0 3)) 12 0 3 (z.1 12 0 3 + 1)
theorem xset {z : MemI} {s : Nat} {x kd tk : Int} (hx : x = s) (hs : s < 70) : di_A_set x kd tk z = some (agS z s kd tk) :=
  azb hx hs (stNb (azb hx hs (stNb (azb hx hs (stNb (stNb rfl))))))
theorem agS_o {z : MemI} {s c : Nat} {kd tk : Int} (h12 : c ≠ 12) (h13 : c ≠ 13) (h14 : c ≠ 14) (h15 : c ≠ 15) : (agS z s kd tk).1 c = z.1 c := by
  funext i k
  unfold agS
  rw [pN_ne (fun q => h12 q.1), pN_ne (fun q => h15 q.1), pN_ne (fun q => h14 q.1), pN_ne (fun q => h13 q.1)]
theorem agS_12 {z : MemI} {s : Nat} {kd tk : Int} : (agS z s kd tk).1 12 0 3 = z.1 12 0 3 + 1 := pN_at _ _ _ _ _
theorem agS_13 {z : MemI} {s i : Nat} {kd tk : Int} : (agS z s kd tk).1 13 0 i = if i = s then kd else z.1 13 0 i := by
  unfold agS
  rw [pN_ne (by omega), pN_ne (by omega), pN_ne (by omega), pN_if]
  by_cases e : i = s
  · rw [if_pos e, if_pos ⟨rfl, rfl, e⟩]
  · rw [if_neg e, if_neg (fun q => e q.2.2)]
theorem agS_14 {z : MemI} {s i : Nat} {kd tk : Int} : (agS z s kd tk).1 14 0 i = if i = s then tk else z.1 14 0 i := by
  unfold agS
  rw [pN_ne (by omega), pN_ne (by omega), pN_if]
  by_cases e : i = s
  · rw [if_pos e, if_pos ⟨rfl, rfl, e⟩]
  · rw [if_neg e, if_neg (fun q => e q.2.2), pN_ne (by omega)]
theorem agS_15 {z : MemI} {s i : Nat} {kd tk : Int} : (agS z s kd tk).1 15 0 i = if i = s then z.1 12 0 3 else z.1 15 0 i := by
  unfold agS
  rw [pN_ne (by omega), pN_if]
  by_cases e : i = s
  · rw [if_pos e, if_pos ⟨rfl, rfl, e⟩]
  · rw [if_neg e, if_neg (fun q => e q.2.2), pN_ne (by omega), pN_ne (by omega)]
theorem ysize {a r z : MemI} {k : Nat} (hk : k < 64) (hf : r.1 0 0 9 ≤ 6) (L : rLab a r k) (h27 : z.1 27 = r.1 27) (h25 : z.1 25 = r.1 25) (h12 : z.1 12 = r.1 12) : di_Y_sizeOf k z = some (a.1 11 k 4, z) := by
  unfold rLab at L
  have h4 := L.2.2.2.2.2.2.2.2.2.1
  refine azb rfl hk ?_
  rw [h27, h25, h12]
  refine rgb (by omega) ?_
  by_cases c : r.1 27 0 k = 0
  · rw [if_pos c] at h4
    refine itp c (azb rfl hk (azb (j := (r.1 25 0 k).toNat) (by omega) (by omega) ?_))
    rw [h4]
  · rw [if_neg c] at h4
    refine itn c ?_
    rw [h4]
def kX : Nat → Int → Int → Nat → MemI → Option MemI := fun x1 x3 x4 x5 z9 =>
      (aiz 6 x3).bind fun j10 =>
      (aiz 6 x3).bind fun j11 =>
      stN (pN z9 7 x1 j11 ((z9.1 7 x1 j10) - (z9.1 11 x5 4))) fun z12 =>
      (di_P_takeFrom x1 x4 z12).bind fun r13 =>
      stN (pN r13.2 4 x1 7 r13.1) fun z14 =>
      (di_A_set ((6 : Int) + (z14.1 4 x1 7)) (2 : Int) ((z14.1 0 0 8) + ((z14.1 11 x5 4) * (z14.1 4 x1 3))) z14).bind fun z15 =>
      (di_X_queuedOf x1 x3 z15).bind fun r16 =>
      (rg r16.1).bind fun _ =>
      if r16.1 = (0 : Int) then
        (di_P_dropFirst x1 r16.2).bind fun z17 =>
        (aiz 6 x3).bind fun j18 =>
        stN (pN z17 7 x1 j18 (0 : Int)) fun z19 =>
        some z19
      else
        some r16.2
def kY : Int → Int → Int → MemI → Option MemI := fun x1 x4 x5 z34 =>
      (aiz 144 x4).bind fun j35 =>
      (di_Y_sizeOf x5 z34).bind fun r36 =>
      (aiz 144 x4).bind fun j37 =>
      stN (pN r36.2 32 0 j37 ((z34.1 32 0 j35) - r36.1)) fun z38 =>
      (aiz 64 x5).bind fun j39 =>
      stN (pN z38 24 0 j39 (2 : Int)) fun z40 =>
      (di_Y_sizeOf x5 z40).bind fun r41 =>
      (nn x1).bind fun _ =>
      (aiz 12 (x1 / (2 : Int))).bind fun j42 =>
      (aiz 64 x5).bind fun j43 =>
      stN (pN r41.2 29 0 j43 ((z40.1 0 0 36) + (r41.1 * (r41.2.1 4 0 j42)))) fun z44 =>
      stN (pN z44 0 0 37 ((z44.1 0 0 37) + (1 : Int))) fun z45 =>
      (aiz 64 x5).bind fun j46 =>
      stN (pN z45 30 0 j46 ((z44.1 0 0 37) + (1 : Int))) fun z47 =>
      some z47
theorem choose_kX (p : Nat) (z : MemI) : di_X_choose p z = di_X_choose_2 kX (fun z20 => some z20) FU p 0 z := rfl
theorem choose_kY (p : Int) (z : MemI) : di_Y_choose p z = di_Y_choose_2 kY (fun z48 => some z48) FU p 0 z := rfl
/-- what choosing and putting leave alone in the reference -/
def frY (r r1 : MemI) : Prop := (∀ c, 1 ≤ c → c ≤ 22 → r1.1 c = r.1 c) ∧ ∀ j, j ≠ 37 → r1.1 0 0 j = r.1 0 0 j
theorem frY.rf (r : MemI) : frY r r := ⟨fun _ _ _ => rfl, fun _ _ => rfl⟩
theorem frY.tr {x y z : MemI} (h1 : frY x y) (h2 : frY y z) : frY x z := ⟨fun c q1 q2 => (h2.1 c q1 q2).trans (h1.1 c q1 q2), fun j hj => (h2.2 j hj).trans (h1.2 j hj)⟩
theorem frY_pN {r : MemI} {c i k : Nat} {v : Int} (h : 23 ≤ c ∨ (c = 0 ∧ k = 37)) : frY r (pN r c i k v) := by
  refine ⟨fun c2 h1 h2 => ?_, fun j hj => ?_⟩
  · funext i2 k2
    rw [pN_ne (by omega)]
  · rw [pN_ne (by omega)]
section FIN
variable {B : Int} {a r : MemI} {p k P L : Nat}
theorem fin_rel (H : Rel B 64 a r) (hBB : B < 1000000000) (hp : (p : Int) < 2 * r.1 0 0 0) (hL : a.1 6 p 0 = L) (hm : 0 < a.1 4 p 9) (h10 : a.1 4 p 10 = 1) (hon : a.1 4 p 7 = -1) (hP : (P : Int) < a.1 4 p 8) (hk : k < 64) (ePk : a.1 5 p P = k) (k24 : r.1 24 0 k = 1) (k28 : r.1 28 0 k = p) (k25 : r.1 25 0 k = L) (hd : a.1 11 k 4 ≤ a.1 7 p L) :
    ∃ a1 r1, kX p L P k a = some a1 ∧ kY p ((6 : Int) * p + L) k r = some r1 ∧ Rel (B + 200) 64 a1 r1 ∧ frY r r1 := by
  have hG := H.G
  unfold rG at hG
  have hQ := H.Q hp
  have hLL := H.L hp
  have hLL2 := hLL
  unfold rL at hLL2
  obtain ⟨x1, x2, x3, x4, x5, x6, x7, x8⟩ := hLL2
  have y0 := x5 0 (by omega)
  have eL : (a.1 6 p 0).toNat = L := by omega
  rw [eL] at y0
  have if23 : (if (0 : Nat) = 0 ∧ a.1 4 p 10 = 1 then (23 : Int) else 7) = 23 := if_pos ⟨rfl, h10⟩
  rw [if23] at y0
  have kin := rP_in H.P hk (Or.inl k24)
  have lab := kin.2.2.1
  obtain ⟨u, w2, hu, hw2, hp24, hl, p1, p2, p3, p4, p5, p6, p7, p8, p9, p10, -, -, -, -⟩ := port_d H hp
  have F := (H.F L (by omega)).1
  have sz : 1 ≤ a.1 11 k 4 ∧ a.1 11 k 4 ≤ 8 := by
    unfold rLab at lab
    have h4 := lab.2.2.2.2.2.2.2.2.2.1
    rw [k25, show ((L : Int)).toNat = L from rfl] at h4
    split at h4 <;> omega
  obtain ⟨N, hN⟩ : ∃ N : Nat, a.1 4 p 8 = N := ⟨(a.1 4 p 8).toNat, by have := hQ.1; omega⟩
  have hN8 := hQ.2.1
  obtain ⟨m, hm9⟩ : ∃ m : Nat, a.1 4 p 9 = (m : Int) + 1 := ⟨(a.1 4 p 9 - 1).toNat, by omega⟩
  generalize hs : a.1 11 k 4 = s at *
  have hmul : 0 ≤ s * r.1 4 0 (p / 2) ∧ s * r.1 4 0 (p / 2) ≤ 128 := by
    have h1 : 0 ≤ s * r.1 4 0 (p / 2) := Int.mul_nonneg (by omega) (by omega)
    have h2 : s * r.1 4 0 (p / 2) ≤ 8 * 16 := Int.mul_le_mul sz.2 p10 (by omega) (by omega)
    omega
  generalize htk : r.1 0 0 36 + s * r.1 4 0 (p / 2) = tk
  -- the class
  generalize hz14 : pN (cN (pN (pN a 7 p L (a.1 7 p L - s)) 4 p 8 ((N : Int) - 1)) 5 p ((P : Int) + 1) P ((N : Int) - 1 - P)) 4 p 7 k = z14
  have t7 : ∀ g, z14.1 7 p g = if g = L then a.1 7 p L - s else a.1 7 p g := fun g => by
    rw [← hz14, pN_ne (by omega), cN_ne (by omega), pN_ne (by omega), pN_if]
    by_cases e : g = L
    · rw [if_pos e, if_pos ⟨rfl, rfl, e⟩]
    · rw [if_neg e, if_neg (fun q => e q.2.2)]
  have t4 : ∀ j, j ≠ 7 → j ≠ 8 → z14.1 4 p j = a.1 4 p j := fun j h7 h8 => by
    rw [← hz14, pN_ne (by omega), cN_ne (by omega), pN_ne (by omega), pN_ne (by omega)]
  have t47 : z14.1 4 p 7 = k := by rw [← hz14, pN_at]
  have t48 : z14.1 4 p 8 = (N : Int) - 1 := by rw [← hz14, pN_ne (by omega), cN_ne (by omega), pN_at]
  have t5 : ∀ i : Nat, (i : Int) < (N : Int) - 1 → z14.1 5 p i = a.1 5 p (if i < P then i else i + 1) := fun i hi => by
    rw [← hz14, pN_ne (by omega), cN_if]
    by_cases c : i < P
    · rw [if_neg (by omega), if_pos c, pN_ne (by omega), pN_ne (by omega)]
    · rw [if_pos ⟨rfl, rfl, by omega, by omega⟩, if_neg c, pN_ne (by omega), pN_ne (by omega)]
      rw [show ((P : Int) + 1).toNat + (i - ((P : Int)).toNat) = i + 1 by omega]
  have tq : ∀ q, q ≠ p → z14.1 4 q = a.1 4 q ∧ z14.1 5 q = a.1 5 q ∧ z14.1 6 q = a.1 6 q ∧ z14.1 7 q = a.1 7 q := fun q hq => by
    rw [← hz14]
    refine ⟨funext fun i => ?_, funext fun i => ?_, rfl, funext fun i => ?_⟩
    · rw [pN_ne (by omega), cN_ne (by omega), pN_ne (by omega), pN_ne (by omega)]
    · rw [pN_ne (by omega), cN_ne (by omega), pN_ne (by omega), pN_ne (by omega)]
    · rw [pN_ne (by omega), cN_ne (by omega), pN_ne (by omega), pN_ne (by omega)]
  have t0 : ∀ c, c ≠ 4 → c ≠ 5 → c ≠ 7 → z14.1 c = a.1 c := fun c h4 h5 h7 => by
    funext i j
    rw [← hz14, pN_ne (fun q => h4 q.1), cN_ne (fun q => h5 q.1), pN_ne (fun q => h4 q.1), pN_ne (fun q => h7 q.1)]
  have t2 : z14.2 = a.2 := by rw [← hz14]; rfl
  generalize hz15 : agS z14 (6 + k) 2 tk = z15
  have u0 : ∀ c, c ≠ 12 → c ≠ 13 → c ≠ 14 → c ≠ 15 → z15.1 c = z14.1 c := fun c h12 h13 h14 h15 => by rw [← hz15]; exact agS_o h12 h13 h14 h15
  have u4 := u0 4 (by decide) (by decide) (by decide) (by decide)
  have u5 := u0 5 (by decide) (by decide) (by decide) (by decide)
  have u6 := u0 6 (by decide) (by decide) (by decide) (by decide)
  have u7 := u0 7 (by decide) (by decide) (by decide) (by decide)
  have u11 : z15.1 11 = a.1 11 := (u0 11 (by decide) (by decide) (by decide) (by decide)).trans (t0 11 (by decide) (by decide) (by decide))
  have z6 : z14.1 6 = a.1 6 := t0 6 (by decide) (by decide) (by decide)
  have qi : ∀ i : Nat, i < N - 1 → 0 ≤ z15.1 5 p i ∧ z15.1 5 p i < 64 ∧ ((if i < P then i else i + 1 : Nat) : Int) < a.1 4 p 8 ∧ z15.1 5 p i = a.1 5 p (if i < P then i else i + 1) := fun i hi => by
    have lt : ((if i < P then i else i + 1 : Nat) : Int) < a.1 4 p 8 := by split <;> omega
    have e5 : z15.1 5 p i = a.1 5 p (if i < P then i else i + 1) := by rw [u5]; exact t5 i (by omega)
    have y := hQ.2.2.1 _ lt
    rw [e5]
    exact ⟨y.1, y.2.1, lt, rfl⟩
  have hcount := xqueued (a := z15) (p := p) (N := N - 1) (f := (L : Int)) (by rw [u4, t48]; omega) (by omega) (fun i hi => by
    have y := qi i hi
    have o := rQ_of H.P hQ y.2.2.1
    refine ⟨y.1, y.2.1, ?_⟩
    rw [y.2.2.2, u11]
    unfold ir
    omega) (by unfold ir; omega)
  have hcl := cnt_le (qx z15 p (L : Int)) (N - 1)
  -- the reference
  generalize hr1 : pN (pN (pN (pN (pN r 32 0 (6 * p + L) (r.1 32 0 (6 * p + L) - s)) 24 0 k 2) 29 0 k tk) 0 0 37 (r.1 0 0 37 + 1)) 30 0 k (r.1 0 0 37 + 1) = r1
  have v0 : ∀ c, c ≠ 0 → c ≠ 24 → c ≠ 29 → c ≠ 30 → c ≠ 32 → r1.1 c = r.1 c := fun c h0 h24 h29 h30 h32 => by
    funext i j
    rw [← hr1, pN_ne (fun q => h30 q.1), pN_ne (fun q => h0 q.1), pN_ne (fun q => h29 q.1), pN_ne (fun q => h24 q.1), pN_ne (fun q => h32 q.1)]
  have v24 : ∀ j, r1.1 24 0 j = if j = k then 2 else r.1 24 0 j := fun j => by
    rw [← hr1, pN_ne (by omega), pN_ne (by omega), pN_ne (by omega), pN_if]
    by_cases e : j = k
    · rw [if_pos e, if_pos ⟨rfl, rfl, e⟩]
    · rw [if_neg e, if_neg (fun q => e q.2.2), pN_ne (by omega)]
  have v29 : ∀ j, r1.1 29 0 j = if j = k then tk else r.1 29 0 j := fun j => by
    rw [← hr1, pN_ne (by omega), pN_ne (by omega), pN_if]
    by_cases e : j = k
    · rw [if_pos e, if_pos ⟨rfl, rfl, e⟩]
    · rw [if_neg e, if_neg (fun q => e q.2.2), pN_ne (by omega), pN_ne (by omega)]
  have v30 : ∀ j, r1.1 30 0 j = if j = k then r.1 0 0 37 + 1 else r.1 30 0 j := fun j => by
    rw [← hr1, pN_if]
    by_cases e : j = k
    · rw [if_pos e, if_pos ⟨rfl, rfl, e⟩]
    · rw [if_neg e, if_neg (fun q => e q.2.2), pN_ne (by omega), pN_ne (by omega), pN_ne (by omega), pN_ne (by omega)]
  have v32 : ∀ j, r1.1 32 0 j = if j = 6 * p + L then r.1 32 0 (6 * p + L) - s else r.1 32 0 j := fun j => by
    rw [← hr1, pN_ne (by omega), pN_ne (by omega), pN_ne (by omega), pN_ne (by omega), pN_if]
    by_cases e : j = 6 * p + L
    · rw [if_pos e, if_pos ⟨rfl, rfl, e⟩]
    · rw [if_neg e, if_neg (fun q => e q.2.2)]
  have v1 : ∀ j, j ≠ 37 → r1.1 0 0 j = r.1 0 0 j := fun j hj => by
    rw [← hr1, pN_ne (by omega), pN_ne (by omega), pN_ne (by omega), pN_ne (by omega), pN_ne (by omega)]
  have v37 : r1.1 0 0 37 = r.1 0 0 37 + 1 := by rw [← hr1, pN_ne (by omega), pN_at]
  have eY : kY p ((6 : Int) * p + L) k r = some r1 := by
    refine azb (j := 6 * p + L) (by omega) (by omega) (cab (ysize hk (by omega) lab rfl rfl rfl) ?_)
    dsimp only
    refine azb (j := 6 * p + L) (by omega) (by omega) (stNb (azb rfl hk (stNb (cab (ysize hk (by omega) lab rfl rfl rfl) ?_))))
    dsimp only
    rw [hs]
    refine nnb (by omega) (azb (j := p / 2) (by omega) (by omega) (azb rfl hk (stNb (stNb (azb rfl hk (stNb ?_))))))
    rw [← hr1, ← htk]
    rfl
  have fr : frY r r1 := ⟨fun c h1 h2 => v0 c (by omega) (by omega) (by omega) (by omega) (by omega), v1⟩
  have base : ∀ a1 : MemI, (∀ c, c ≠ 4 → c ≠ 6 → c ≠ 7 → a1.1 c = z15.1 c) → a1.2 = z15.2 → (∀ q, q ≠ p → a1.1 4 q = z15.1 4 q ∧ a1.1 6 q = z15.1 6 q ∧ a1.1 7 q = z15.1 7 q) → (∀ j, j ≠ 9 → j ≠ 10 → a1.1 4 p j = z15.1 4 p j) → rL a1 r1 p → Rel (B + 200) 64 a1 r1 ∧ frY r r1 := by
    intro a1 b0 b2 bq b4 hLn
    refine ⟨?_, fr⟩
    refine take_rel (tk := tk) H (by omega) hp hN (by omega) hk ePk k24 k28 hon (by omega) (fun c h4 h5 h6 h7 h12 h13 h14 h15 => ?_) ?_ (fun q hq => ?_) (fun j hj => ?_) ?_ ?_ (fun i hi => ?_) ?_ (fun i => ?_) (fun i => ?_) (fun i => ?_) v0 v24 v29 v30 (fun q f hq hf => ?_) v1 v37 (by rw [← hr1]; rfl) hLn
    · rw [b0 c h4 h6 h7, u0 c h12 h13 h14 h15, t0 c h4 h5 h7]
    · rw [b2, ← hz15]
      exact t2
    · have w := bq q hq
      rw [w.1, b0 5 (by decide) (by decide) (by decide), w.2.1, w.2.2, u4, u5, u6, u7]
      exact tq q hq
    · rw [b4 j (by omega) (by omega), u4, t4 j (by omega) (by omega)]
    · rw [b4 7 (by decide) (by decide), u4, t47]
    · rw [b4 8 (by decide) (by decide), u4, t48]
    · rw [b0 5 (by decide) (by decide) (by decide), u5]
      exact t5 i hi
    · rw [b0 12 (by decide) (by decide) (by decide), ← hz15, agS_12, t0 12 (by decide) (by decide) (by decide)]
    · rw [b0 13 (by decide) (by decide) (by decide), ← hz15, agS_13, t0 13 (by decide) (by decide) (by decide)]
    · rw [b0 14 (by decide) (by decide) (by decide), ← hz15, agS_14, t0 14 (by decide) (by decide) (by decide)]
    · rw [b0 15 (by decide) (by decide) (by decide), ← hz15, agS_15, t0 15 (by decide) (by decide) (by decide), t0 12 (by decide) (by decide) (by decide)]
    · rw [v32, if_neg (by omega)]
  have r32g : ∀ g, g < 6 → r1.1 32 0 (6 * p + g) = if g = L then r.1 32 0 (6 * p + L) - s else r.1 32 0 (6 * p + g) := fun g hg => by
    rw [v32]
    by_cases e : g = L
    · rw [if_pos e, if_pos (by omega)]
    · rw [if_neg e, if_neg (by omega)]
  have common : ∀ R, ((di_X_queuedOf p (L : Int) z15).bind fun r16 => (rg r16.1).bind fun _ => if r16.1 = (0 : Int) then (di_P_dropFirst p r16.2).bind fun z17 => (aiz 6 (L : Int)).bind fun j18 => stN (pN z17 7 p j18 (0 : Int)) fun z19 => some z19 else some r16.2) = R → kX p L P k a = R := by
    intro R hR
    refine azb rfl (by omega) (azb rfl (by omega) (stNb ?_))
    rw [hs]
    have eN : (pN a 7 p L (a.1 7 p L - s)).1 4 p 8 = N := by rw [pN_ne (by omega)]; exact hN
    have eP5 : (pN a 7 p L (a.1 7 p L - s)).1 5 p P = k := by rw [pN_ne (by omega)]; exact ePk
    have e48 : ∀ x, (pN (pN a 7 p L (a.1 7 p L - s)) 4 p 8 x).1 4 p 8 = x := fun x => pN_at _ _ _ _ _
    have tf : di_P_takeFrom p P (pN a 7 p L (a.1 7 p L - s)) = some ((k : Int), cN (pN (pN a 7 p L (a.1 7 p L - s)) 4 p 8 ((N : Int) - 1)) 5 p ((P : Int) + 1) P ((N : Int) - 1 - P)) := by
      refine azb rfl (by omega) (stNb ?_)
      rw [eN, e48, eP5]
      exact acb (by omega) (stNb rfl)
    refine cab tf (stNb ?_)
    dsimp only
    rw [hz14, t47]
    have n8 : z14.1 0 0 8 = r.1 0 0 36 := by rw [t0 0 (by decide) (by decide) (by decide)]; omega
    have n11 : z14.1 11 k 4 = s := by rw [t0 11 (by decide) (by decide) (by decide)]; exact hs
    have n3 : z14.1 4 p 3 = r.1 4 0 (p / 2) := by rw [t4 3 (by decide) (by decide)]; exact p8
    rw [n8, n11, n3, htk]
    refine cab (xset (s := 6 + k) (by omega) (by omega)) ?_
    rw [hz15]
    exact hR
  by_cases c : cnt (qx z15 p (L : Int)) (N - 1) = 0
  · -- the flow has no packet left at the port
    rw [c] at hcount
    generalize hz17 : pN (cN (pN z15 4 p 9 (m : Int)) 6 p 1 0 (m : Int)) 4 p 10 0 = z17
    have dr : di_P_dropFirst p z15 = some z17 := by
      have w9 : z15.1 4 p 9 = (m : Int) + 1 := by rw [u4, t4 9 (by decide) (by decide)]; exact hm9
      refine rgb (by omega) (itn (by omega) (stNb ?_))
      rw [show z15.1 4 p 9 - 1 = (m : Int) by omega]
      have w2 : (pN z15 4 p 9 (m : Int)).1 4 p 9 = m := pN_at _ _ _ _ _
      rw [w2]
      refine acb (by omega) (stNb (bz0b (stNb ?_)))
      rw [hz17]
    refine ⟨pN z17 7 p L 0, r1, common _ (cab hcount ?_), eY, base _ (fun c4 h4 h6 h7 => ?_) ?_ (fun q hq => ⟨?_, ?_, ?_⟩) (fun j h9 h10' => ?_) ?_⟩
    · dsimp only
      refine rgb (by omega) (itp rfl (cab dr (azb rfl (by omega) (stNb rfl))))
    · funext i j
      rw [pN_ne (fun q => h7 q.1), ← hz17, pN_ne (fun q => h4 q.1), cN_ne (fun q => h6 q.1), pN_ne (fun q => h4 q.1)]
    · rw [← hz17]
      rfl
    · funext i
      rw [pN_ne (by omega), ← hz17, pN_ne (by omega), cN_ne (by omega), pN_ne (by omega)]
    · funext i
      rw [pN_ne (by omega), ← hz17, pN_ne (by omega), cN_ne (by omega), pN_ne (by omega)]
    · funext i
      rw [pN_ne (by omega), ← hz17]
      rfl
    · rw [pN_ne (by omega), ← hz17, pN_ne (by omega), cN_ne (by omega), pN_ne (by omega)]
    · refine dropL (k := k) (d := r.1 32 0 (6 * p + L) - s) hLL hL hm9 (by omega) k25 (fun j hj nj j24 j28 j25 => ?_) ?_ ?_ (fun i hi => ?_) (fun g => ?_) v24 (v0 25 (by decide) (by decide) (by decide) (by decide) (by decide)) (v0 28 (by decide) (by decide) (by decide) (by decide) (by decide)) (v0 31 (by decide) (by decide) (by decide) (by decide) (by decide)) (v0 33 (by decide) (by decide) (by decide) (by decide) (by decide)) r32g (v1 9 (by decide)) (by omega)
      · obtain ⟨i, hi, e⟩ := hQ.2.2.2.2 j hj j24 j28
        have ni : i ≠ P := fun q => by
          subst q
          omega
        have pos : 0 < cnt (qx z15 p (L : Int)) (N - 1) := by
          refine cnt_pos_of (k := if i < P then i else i - 1) ?_ (by split <;> omega)
          have lt : (if i < P then i else i - 1 : Nat) < N - 1 := by split <;> omega
          have y := qi _ lt
          have ee : (if (if i < P then i else i - 1 : Nat) < P then (if i < P then i else i - 1 : Nat) else (if i < P then i else i - 1 : Nat) + 1) = i := by
            by_cases c1 : i < P
            · rw [if_pos c1, if_pos c1]
            · rw [if_neg c1, if_neg (by omega)]
              omega
          rw [ee] at y
          have o := rQ_of H.P hQ hi
          refine decide_eq_true ?_
          rw [y.2.2.2, u11]
          have e3 : (a.1 5 p i).toNat = j := by omega
          rw [e3] at o ⊢
          omega
        omega
      · rw [pN_ne (by omega), ← hz17, pN_ne (by omega), cN_ne (by omega), pN_at]
      · rw [pN_ne (by omega), ← hz17, pN_at]
      · rw [pN_ne (by omega), ← hz17, pN_ne (by omega), cN_if, if_pos ⟨rfl, rfl, by omega, by omega⟩, pN_ne (by omega), u6, z6]
        rw [show (1 : Int).toNat + (i - (0 : Int).toNat) = i + 1 by omega]
      · rw [pN_if]
        by_cases e : g = L
        · rw [if_pos e, if_pos ⟨rfl, rfl, e⟩]
        · rw [if_neg e, if_neg (fun q => e q.2.2), ← hz17, pN_ne (by omega), cN_ne (by omega), pN_ne (by omega), u7, t7, if_neg e]
  · refine ⟨z15, r1, common _ (cab hcount ?_), eY, base z15 (fun _ _ _ _ => rfl) rfl (fun _ _ => ⟨rfl, rfl, rfl⟩) (fun _ _ _ => rfl) ?_⟩
    · dsimp only
      exact rgb (by omega) (itn (by omega) rfl)
    · obtain ⟨i, hi, ei⟩ := cnt_pos (Nat.pos_of_ne_zero c)
      have y := qi i hi
      have x3' := hQ.2.2.1 _ y.2.2.1
      have o := rQ_of H.P hQ y.2.2.1
      have ev : z15.1 11 (z15.1 5 p i).toNat 2 = L := of_decide_eq_true ei
      rw [y.2.2.2, u11] at ev
      refine keepL (k := k) (d := r.1 32 0 (6 * p + L) - s) hLL hL hm h10 (by omega) k25 (by omega) ⟨(a.1 5 p (if i < P then i else i + 1)).toNat, by omega, fun q => ?_, x3'.2.2.1, x3'.2.2.2, by omega⟩ ?_ ?_ ?_ (fun g => ?_) v24 (v0 25 (by decide) (by decide) (by decide) (by decide) (by decide)) (v0 28 (by decide) (by decide) (by decide) (by decide) (by decide)) (v0 31 (by decide) (by decide) (by decide) (by decide) (by decide)) (v0 33 (by decide) (by decide) (by decide) (by decide) (by decide)) r32g (v1 9 (by decide)) (by omega)
      · have := rQ_inj hQ y.2.2.1 (j := P) hP (by omega)
        split at this <;> omega
      · rw [u4, t4 9 (by decide) (by decide)]
      · rw [u4, t4 10 (by decide) (by decide)]
      · rw [u6, z6]
      · rw [u7, t7]
        by_cases e : g = L
        · rw [if_pos e, if_pos e]
          omega
        · rw [if_neg e, if_neg e]
end FIN
