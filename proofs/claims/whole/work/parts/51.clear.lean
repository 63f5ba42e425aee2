/-! ===== fills; clear ===== -/
theorem fill2 {x : Int} {K : MemI → Option MemI} {x0 : Nat} : ∀ (m j n : Nat) (z : MemI), j + m = 8 → m < n → ∃ z1 : MemI, (∀ c i k, ¬ (c = 2 ∧ i = x0) → z1.1 c i k = z.1 c i k) ∧ z1.2 = z.2 ∧ (∀ k, k < 8 → z1.1 2 x0 k = if j ≤ k then x else z.1 2 x0 k) ∧ di_J_fillX2_5 K n x0 x j 8 z = K z1 := by
  intro m
  induction m with
  | zero =>
    intro j n z hj hn
    obtain ⟨n, rfl⟩ : ∃ q, n = q + 1 := ⟨n - 1, by omega⟩
    refine ⟨z, fun _ _ _ _ => rfl, rfl, fun k hk => (if_neg (by omega)).symm, ?_⟩
    rw [di_J_fillX2_5]
    exact rgb (by omega) (rgb (by omega) (itp (by omega) rfl))
  | succ m ih =>
    intro j n z hj hn
    obtain ⟨n, rfl⟩ : ∃ q, n = q + 1 := ⟨n - 1, by omega⟩
    obtain ⟨z1, h1, h2, h3, h4⟩ := ih (j + 1) n (pN z 2 x0 j x) (by omega) (by omega)
    refine ⟨z1, fun c i k hc => ?_, h2, fun k hk => ?_, ?_⟩
    · rw [h1 c i k hc, pN_ne (fun q => hc ⟨q.1, q.2.1⟩)]
    · rw [h3 k hk]
      by_cases e : k = j
      · subst e
        rw [if_neg (by omega), if_pos (Nat.le_refl _), pN_at]
      · rw [pN_ne (fun q => e q.2.2)]
        by_cases c : j + 1 ≤ k
        · rw [if_pos c, if_pos (by omega)]
        · rw [if_neg c, if_neg (by omega)]
    · rw [di_J_fillX2_5]
      exact rgb (by omega) (rgb (by omega) (itn (by omega) (azb rfl (by omega) (stNb h4))))
theorem fill7 {x : Int} {K : MemI → Option MemI} {x0 : Nat} : ∀ (m j n : Nat) (z : MemI), j + m = 6 → m < n → ∃ z1 : MemI, (∀ c i k, ¬ (c = 7 ∧ i = x0) → z1.1 c i k = z.1 c i k) ∧ z1.2 = z.2 ∧ (∀ k, k < 6 → z1.1 7 x0 k = if j ≤ k then x else z.1 7 x0 k) ∧ di_J_fillX7_5 K n x0 x j 6 z = K z1 := by
  intro m
  induction m with
  | zero =>
    intro j n z hj hn
    obtain ⟨n, rfl⟩ : ∃ q, n = q + 1 := ⟨n - 1, by omega⟩
    refine ⟨z, fun _ _ _ _ => rfl, rfl, fun k hk => (if_neg (by omega)).symm, ?_⟩
    rw [di_J_fillX7_5]
    exact rgb (by omega) (rgb (by omega) (itp (by omega) rfl))
  | succ m ih =>
    intro j n z hj hn
    obtain ⟨n, rfl⟩ : ∃ q, n = q + 1 := ⟨n - 1, by omega⟩
    obtain ⟨z1, h1, h2, h3, h4⟩ := ih (j + 1) n (pN z 7 x0 j x) (by omega) (by omega)
    refine ⟨z1, fun c i k hc => ?_, h2, fun k hk => ?_, ?_⟩
    · rw [h1 c i k hc, pN_ne (fun q => hc ⟨q.1, q.2.1⟩)]
    · rw [h3 k hk]
      by_cases e : k = j
      · subst e
        rw [if_neg (by omega), if_pos (Nat.le_refl _), pN_at]
      · rw [pN_ne (fun q => e q.2.2)]
        by_cases c : j + 1 ≤ k
        · rw [if_pos c, if_pos (by omega)]
        · rw [if_neg c, if_neg (by omega)]
    · rw [di_J_fillX7_5]
      exact rgb (by omega) (rgb (by omega) (itn (by omega) (azb rfl (by omega) (stNb h4))))
theorem fill13 {x : Int} {K : MemI → Option MemI} : ∀ (m j n : Nat) (z : MemI), j + m = 70 → m < n → ∃ z1 : MemI, (∀ c i k, ¬ (c = 13 ∧ i = 0) → z1.1 c i k = z.1 c i k) ∧ z1.2 = z.2 ∧ (∀ k, k < 70 → z1.1 13 0 k = if j ≤ k then x else z.1 13 0 k) ∧ di_J_fillX13_5 K n x j 70 z = K z1 := by
  intro m
  induction m with
  | zero =>
    intro j n z hj hn
    obtain ⟨n, rfl⟩ : ∃ q, n = q + 1 := ⟨n - 1, by omega⟩
    refine ⟨z, fun _ _ _ _ => rfl, rfl, fun k hk => (if_neg (by omega)).symm, ?_⟩
    rw [di_J_fillX13_5]
    exact rgb (by omega) (rgb (by omega) (itp (by omega) rfl))
  | succ m ih =>
    intro j n z hj hn
    obtain ⟨n, rfl⟩ : ∃ q, n = q + 1 := ⟨n - 1, by omega⟩
    obtain ⟨z1, h1, h2, h3, h4⟩ := ih (j + 1) n (pN z 13 0 j x) (by omega) (by omega)
    refine ⟨z1, fun c i k hc => ?_, h2, fun k hk => ?_, ?_⟩
    · rw [h1 c i k hc, pN_ne (fun q => hc ⟨q.1, q.2.1⟩)]
    · rw [h3 k hk]
      by_cases e : k = j
      · subst e
        rw [if_neg (by omega), if_pos (Nat.le_refl _), pN_at]
      · rw [pN_ne (fun q => e q.2.2)]
        by_cases c : j + 1 ≤ k
        · rw [if_pos c, if_pos (by omega)]
        · rw [if_neg c, if_neg (by omega)]
    · rw [di_J_fillX13_5]
      exact rgb (by omega) (rgb (by omega) (itn (by omega) (azb rfl (by omega) (stNb h4))))
theorem fill16 {x : Int} {K : MemI → Option MemI} : ∀ (m j n : Nat) (z : MemI), j + m = 16 → m < n → ∃ z1 : MemI, z1.1 = z.1 ∧ (∀ k, k < 16 → z1.2 k = if j ≤ k then x else z.2 k) ∧ di_J_fillX16_6 K n x j 16 z = K z1 := by
  intro m
  induction m with
  | zero =>
    intro j n z hj hn
    obtain ⟨n, rfl⟩ : ∃ q, n = q + 1 := ⟨n - 1, by omega⟩
    refine ⟨z, rfl, fun k hk => (if_neg (by omega)).symm, ?_⟩
    rw [di_J_fillX16_6]
    exact rgb (by omega) (rgb (by omega) (itp (by omega) rfl))
  | succ m ih =>
    intro j n z hj hn
    obtain ⟨n, rfl⟩ : ∃ q, n = q + 1 := ⟨n - 1, by omega⟩
    obtain ⟨z1, h1, h3, h4⟩ := ih (j + 1) n (pM z j x) (by omega) (by omega)
    refine ⟨z1, h1, fun k hk => ?_, ?_⟩
    · rw [h3 k hk]
      show (if j + 1 ≤ k then x else (if k = j then x else z.2 k)) = _
      by_cases e : k = j
      · rw [if_neg (by omega), if_pos e, if_pos (by omega)]
      · rw [if_neg e]
        by_cases c : j + 1 ≤ k
        · rw [if_pos c, if_pos (by omega)]
        · rw [if_neg c, if_neg (by omega)]
    · rw [di_J_fillX16_6]
      exact rgb (by omega) (rgb (by omega) (itn (by omega) (azb rfl (by omega) (stNb h4))))
theorem clr22 {K : MemI → Option MemI} : ∀ (m v n : Nat) (z : MemI), v + m = 8 → m < n → ∃ z1 : MemI, (∀ c i k, c ≠ 2 → z1.1 c i k = z.1 c i k) ∧ z1.2 = z.2 ∧ (∀ u t, u < 8 → t < 8 → v ≤ u → z1.1 2 u t = if u = t then 0 else -1) ∧ (∀ u t, u < v → z1.1 2 u t = z.1 2 u t) ∧ di_X_clear_22 K n v z = K z1 := by
  intro m
  induction m with
  | zero =>
    intro v n z hv hn
    obtain ⟨n, rfl⟩ : ∃ q, n = q + 1 := ⟨n - 1, by omega⟩
    refine ⟨z, fun _ _ _ _ => rfl, rfl, fun u t hu ht hvu => by omega, fun _ _ _ => rfl, ?_⟩
    rw [di_X_clear_22]
    exact rgb (by omega) (itp (by omega) rfl)
  | succ m ih =>
    intro v n z hv hn
    obtain ⟨n, rfl⟩ : ∃ q, n = q + 1 := ⟨n - 1, by omega⟩
    obtain ⟨z2, f1, f2, f3, f4⟩ := fill2 (x := -1) (K := fun z3 => some z3) (x0 := v) 8 0 FU z rfl (by decide)
    obtain ⟨z1, h1, h2, h3, h5, h4⟩ := ih (v + 1) n (pN z2 2 v v 0) (by omega) (by omega)
    refine ⟨z1, fun c i k hc => ?_, h2.trans f2, fun u t hu ht hvu => ?_, fun u t hu => ?_, ?_⟩
    · rw [h1 c i k hc, pN_ne (fun q => hc q.1), f1 c i k (fun q => hc q.1)]
    · by_cases e : u = v
      · subst e
        rw [h5 u t (by omega)]
        by_cases e2 : u = t
        · subst e2
          rw [pN_at, if_pos rfl]
        · rw [pN_ne (fun q => e2 q.2.2.symm), f3 t ht, if_pos (Nat.zero_le _), if_neg e2]
      · exact h3 u t hu ht (by omega)
    · rw [h5 u t (by omega), pN_ne (fun q => by omega), f1 2 u t (fun q => by omega)]
    · rw [di_X_clear_22]
      exact rgb (by omega) (itn (by omega) (azb rfl (by omega) (cab (v := z2) f4 (azb rfl (by omega) (azb rfl (by omega) (stNb h4))))))
theorem clr55 {K : MemI → Option MemI} : ∀ (m v n : Nat) (z : MemI), v + m = 64 → m < n → ∃ z1 : MemI, (∀ c i k, c ≠ 11 → z1.1 c i k = z.1 c i k) ∧ z1.2 = z.2 ∧ (∀ u, u < 64 → v ≤ u → z1.1 11 u 0 = 0) ∧ (∀ u, u < v → z1.1 11 u 0 = z.1 11 u 0) ∧ di_X_clear_55 K n v z = K z1 := by
  intro m
  induction m with
  | zero =>
    intro v n z hv hn
    obtain ⟨n, rfl⟩ : ∃ q, n = q + 1 := ⟨n - 1, by omega⟩
    refine ⟨z, fun _ _ _ _ => rfl, rfl, fun u hu hvu => by omega, fun _ _ => rfl, ?_⟩
    rw [di_X_clear_55]
    exact rgb (by omega) (itp (by omega) rfl)
  | succ m ih =>
    intro v n z hv hn
    obtain ⟨n, rfl⟩ : ∃ q, n = q + 1 := ⟨n - 1, by omega⟩
    obtain ⟨z1, h1, h2, h3, h5, h4⟩ := ih (v + 1) n (pN z 11 v 0 0) (by omega) (by omega)
    refine ⟨z1, fun c i k hc => ?_, h2, fun u hu hvu => ?_, fun u hu => ?_, ?_⟩
    · rw [h1 c i k hc, pN_ne (fun q => hc q.1)]
    · by_cases e : u = v
      · subst e
        rw [h5 u (by omega), pN_at]
      · exact h3 u hu (by omega)
    · rw [h5 u (by omega), pN_ne (fun q => by omega)]
    · rw [di_X_clear_55]
      exact rgb (by omega) (itn (by omega) (azb rfl (by omega) (bz0b (stNb h4))))
theorem clr32 {K : MemI → Option MemI} : ∀ (m v n : Nat) (z : MemI), v + m = 64 → m < n → ∃ z1 : MemI, (∀ c i k, c ≠ 24 → z1.1 c i k = z.1 c i k) ∧ z1.2 = z.2 ∧ (∀ u, u < 64 → v ≤ u → z1.1 24 0 u = 0) ∧ (∀ u, u < v → z1.1 24 0 u = z.1 24 0 u) ∧ di_Y_clear_32 K n v z = K z1 := by
  intro m
  induction m with
  | zero =>
    intro v n z hv hn
    obtain ⟨n, rfl⟩ : ∃ q, n = q + 1 := ⟨n - 1, by omega⟩
    refine ⟨z, fun _ _ _ _ => rfl, rfl, fun u hu hvu => by omega, fun _ _ => rfl, ?_⟩
    rw [di_Y_clear_32]
    exact rgb (by omega) (itp (by omega) rfl)
  | succ m ih =>
    intro v n z hv hn
    obtain ⟨n, rfl⟩ : ∃ q, n = q + 1 := ⟨n - 1, by omega⟩
    obtain ⟨z1, h1, h2, h3, h5, h4⟩ := ih (v + 1) n (pN z 24 0 v 0) (by omega) (by omega)
    refine ⟨z1, fun c i k hc => ?_, h2, fun u hu hvu => ?_, fun u hu => ?_, ?_⟩
    · rw [h1 c i k hc, pN_ne (fun q => hc q.1)]
    · by_cases e : u = v
      · subst e
        rw [h5 u (by omega), pN_at]
      · exact h3 u hu (by omega)
    · rw [h5 u (by omega), pN_ne (fun q => by omega)]
    · rw [di_Y_clear_32]
      exact rgb (by omega) (itn (by omega) (azb rfl (by omega) (stNb h4)))
theorem m0_T : mT m0 := by
  intro v u t _ _ _
  show (if v = t then (0 : Int) else 1000000) ≤ (if v = u then (0 : Int) else 1000000) + (if u = t then (0 : Int) else 1000000)
  by_cases e1 : v = u
  · rw [if_pos e1]
    by_cases e2 : u = t
    · rw [if_pos e2, if_pos (e1.trans e2)]; omega
    · rw [if_neg e2]; split <;> omega
  · rw [if_neg e1]
    split <;> split <;> omega
theorem clear_any (a r : MemI) {B : Int} (hB : 0 ≤ B) : ∃ a1 r1, di_X_clear a = some a1 ∧ di_Y_clear r = some r1 ∧ Rel B 64 a1 r1 := by
  obtain ⟨z1, p1, p2, p3, -, p5⟩ := clr22 (K := fun z11 => di_X_clear_55 (fun z15 => (di_A_unsetAll z15).bind fun z16 => (di_J_fillX16 (-1) z16).bind fun z17 => some z17) FU 0 z11) 8 0 FU (pN (pN (pN (pN a 0 0 9 0) 0 0 8 0) 0 0 6 0) 0 0 7 0) rfl (by decide)
  obtain ⟨z2, q1, q2, q3, -, q5⟩ := clr55 (K := fun z15 => (di_A_unsetAll z15).bind fun z16 => (di_J_fillX16 (-1) z16).bind fun z17 => some z17) 64 0 FU z1 rfl (by decide)
  obtain ⟨z3, s1, s2, s3, s5⟩ := fill13 (x := 0) (K := fun z3 => some z3) 70 0 FU z2 rfl (by decide)
  obtain ⟨z4, t1, t3, t5⟩ := fill16 (x := -1) (K := fun z3 => some z3) 16 0 FU (pN z3 12 0 3 0) rfl (by decide)
  obtain ⟨y1, u1, u2, u3, -, u5⟩ := clr32 (K := fun z10 => (di_Y_measure z10).bind fun z11 => some z11) 64 0 FU (pN (pN (pN (pN (pN (pN r 0 0 0 0) 0 0 9 0) 0 0 35 0) 0 0 36 0) 0 0 37 0) 0 0 38 0) rfl (by decide)
  have y0 : y1.1 0 0 0 = ((0 : Nat) : Int) := by rw [u1 0 0 0 (by decide)]; rfl
  obtain ⟨y2, w1, w2, w3, w4, w5⟩ := ymeasure (r := y1) (N := 0) y0 (by decide) (fun l hl => absurd hl (Nat.not_lt_zero l))
  have eX : di_X_clear a = some z4 := by
    refine bz0b (stNb (stNb (stNb (stNb ?_))))
    refine p5.trans (q5.trans (cab (v := pN z3 12 0 3 0) (cab (v := z3) s5 (stNb rfl)) ?_))
    exact cab (v := z4) t5 rfl
  have eY : di_Y_clear r = some y2 := by
    refine stNb (stNb (bz0b (stNb (stNb (stNb (stNb ?_))))))
    exact u5.trans (cab w1 rfl)
  refine ⟨z4, y2, eX, eY, ?_⟩
  have hz : ∀ c i k, c ≠ 2 → c ≠ 11 → c ≠ 13 → c ≠ 12 → z4.1 c i k = (pN (pN (pN (pN a 0 0 9 0) 0 0 8 0) 0 0 6 0) 0 0 7 0).1 c i k := by
    intro c i k h2 h11 h13 h12
    rw [t1, pN_ne (fun q => h12 q.1), s1 c i k (fun q => h13 q.1), q1 c i k h11, p1 c i k h2]
  have z6 : z4.1 0 0 6 = 0 := by rw [hz 0 0 6 (by decide) (by decide) (by decide) (by decide)]; rfl
  have z7 : z4.1 0 0 7 = 0 := by rw [hz 0 0 7 (by decide) (by decide) (by decide) (by decide)]; rfl
  have z8 : z4.1 0 0 8 = 0 := by rw [hz 0 0 8 (by decide) (by decide) (by decide) (by decide)]; rfl
  have z9 : z4.1 0 0 9 = 0 := by rw [hz 0 0 9 (by decide) (by decide) (by decide) (by decide)]; rfl
  have z12 : z4.1 12 0 3 = 0 := by rw [t1, pN_at]
  have z11 : ∀ k, k < 64 → z4.1 11 k 0 = 0 := fun k hk => by
    rw [t1, pN_ne (by omega), s1 11 k 0 (by omega)]
    exact q3 k hk (Nat.zero_le _)
  have z13 : ∀ k, k < 70 → z4.1 13 0 k = 0 := fun k hk => by
    rw [t1, pN_ne (by omega), s3 k hk, if_pos (Nat.zero_le _)]
  have z2' : ∀ u t, u < 8 → t < 8 → z4.1 2 u t = if u = t then 0 else -1 := fun u t hu ht => by
    rw [t1, pN_ne (by omega), s1 2 u t (by omega), q1 2 u t (by decide)]
    exact p3 u t hu ht (Nat.zero_le _)
  have zL : ∀ k, k < 16 → z4.2 k = -1 := fun k hk => by
    rw [t3 k hk, if_pos (Nat.zero_le _)]
  have yy : ∀ j, y2.1 0 0 j = (pN (pN (pN (pN (pN (pN r 0 0 0 0) 0 0 9 0) 0 0 35 0) 0 0 36 0) 0 0 37 0) 0 0 38 0).1 0 0 j := fun j => by
    rw [w2.1 0 (by decide), u1 0 0 j (by decide)]
  have e0 : y2.1 0 0 0 = 0 := by rw [yy]; rfl
  have e9 : y2.1 0 0 9 = 0 := by rw [yy]; rfl
  have e35 : y2.1 0 0 35 = 0 := by rw [yy]; rfl
  have e36 : y2.1 0 0 36 = 0 := by rw [yy]; rfl
  have e37 : y2.1 0 0 37 = 0 := by rw [yy]; rfl
  have e38 : y2.1 0 0 38 = 0 := by rw [yy]; rfl
  have e24 : ∀ k, k < 64 → y2.1 24 0 k = 0 := fun k hk => by
    rw [w2.1 24 (by decide)]
    exact u3 k hk (Nat.zero_le _)
  have k0 : ∀ s, s < 70 → rk y2 64 s = 0 := by
    intro s hs
    by_cases c : s < 6
    · exact rk_f0 c (by omega)
    · obtain ⟨k, rfl⟩ : ∃ k, s = 6 + k := ⟨s - 6, by omega⟩
      rw [rk_k, if_neg (by omega), e24 k (by omega)]
      rfl
  refine ⟨?_, fun l hl => by omega, fun p hp => by omega, ?_, fun f hf => by omega, ⟨fun k hk _ => Or.inl ⟨z11 k hk, e24 k hk⟩, fun hh => by omega⟩, fun p hp => by omega, ⟨fun s hs => by rw [z13 s hs, k0 s hs], fun s hs hk => absurd (k0 s hs) hk, fun s t hs _ _ hk _ => absurd (k0 s hs) hk⟩, ⟨fun f hf => by omega, fun _ => ⟨z11, fun f hf => by omega⟩⟩, fun k hk => ?_⟩
  · unfold rG
    rw [z6, z7, z8, z9, z12, e0, e9, e35, e36, e37, e38]
    omega
  · have hm : ∀ v t, v < 8 → t < 8 → rM y2 v t = m0 v t := fun v t hv ht => mx_uni w3 w4 ⟨m0_Z, m0_T, fun k hk => absurd hk (Nat.not_lt_zero k)⟩ (fun X hX => m0_G hX.1) hv ht
    refine ⟨fun v t hv ht => ?_, ?_, ?_, w5⟩
    · rw [z2' v t hv ht, hm v t hv ht]
      show _ = if (if v = t then (0 : Int) else 1000000) = 1000000 then -1 else (if v = t then (0 : Int) else 1000000)
      by_cases e : v = t
      · rw [if_pos e, if_pos e]; rfl
      · rw [if_neg e, if_neg e]; rfl
    · rw [e0]
      exact ⟨w3.1, w3.2.1, fun k hk => absurd hk (Nat.not_lt_zero k)⟩
    · rw [e0]
      exact fun X hX => w4 X ⟨hX.1, hX.2.1, fun k hk => absurd hk (Nat.not_lt_zero k)⟩
  · rw [zL k hk, e38, if_neg (by omega)]
