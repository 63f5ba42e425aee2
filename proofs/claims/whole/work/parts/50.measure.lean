/-! ===== the reference's reckoning of all distances ===== -/
/-- z is r but for the distances -/
def e8 (r z : MemI) : Prop := (∀ c, c ≠ 8 → z.1 c = r.1 c) ∧ z.2 = r.2
def is8 (z : MemI) (M : Mx) : Prop := ∀ v t, v < 8 → t < 8 → z.1 8 0 (8 * v + t) = M v t
theorem e8_rf (r : MemI) : e8 r r := ⟨fun _ _ => rfl, rfl⟩
theorem e8_pN {r z : MemI} {j : Nat} {x : Int} (h : e8 r z) : e8 r (pN z 8 0 j x) := by
  refine ⟨fun c hc => ?_, h.2⟩
  rw [← h.1 c hc]
  funext i k
  exact pN_ne (fun q => hc q.1)
theorem at8 {z : MemI} {v t v1 t1 : Nat} {x : Int} (ht : t < 8) (ht1 : t1 < 8) : (pN z 8 0 (8 * v + t) x).1 8 0 (8 * v1 + t1) = if v1 = v ∧ t1 = t then x else z.1 8 0 (8 * v1 + t1) := by
  rw [pN_if]
  by_cases e : v1 = v ∧ t1 = t
  · rw [if_pos e, if_pos ⟨rfl, rfl, by omega⟩]
  · rw [if_neg e, if_neg (fun q => e (by omega))]
def P0 (v t : Nat) (z : MemI) : Prop := ∀ v1 t1, v1 < 8 → t1 < 8 → (v1 < v ∨ (v1 = v ∧ t1 < t)) → z.1 8 0 (8 * v1 + t1) = m0 v1 t1
theorem meas10 {r : MemI} {K : Int → MemI → Option MemI} {v : Nat} (hv : v < 8) : ∀ (m t n : Nat) (z : MemI), t + m = 8 → m < n → e8 r z → P0 v t z → ∃ z1, e8 r z1 ∧ P0 v 8 z1 ∧ di_Y_measure_10 K n v t z = K v z1 := by
  intro m
  induction m with
  | zero =>
    intro t n z ht hn he hP
    obtain ⟨n, rfl⟩ : ∃ q, n = q + 1 := ⟨n - 1, by omega⟩
    have e : t = 8 := by omega
    subst e
    refine ⟨z, he, hP, ?_⟩
    rw [di_Y_measure_10]
    exact rgb (by omega) (itp (by omega) rfl)
  | succ m ih =>
    intro t n z ht hn he hP
    obtain ⟨n, rfl⟩ : ∃ q, n = q + 1 := ⟨n - 1, by omega⟩
    have ht8 : t < 8 := by omega
    have nx : P0 v (t + 1) (pN z 8 0 (8 * v + t) (m0 v t)) := by
      intro v1 t1 hv1 ht1 hlt
      rw [at8 ht8 ht1]
      by_cases e : v1 = v ∧ t1 = t
      · rw [if_pos e, e.1, e.2]
      · rw [if_neg e]
        exact hP v1 t1 hv1 ht1 (by omega)
    obtain ⟨z1, h1, h2, h3⟩ := ih (t + 1) n _ (by omega) (by omega) (e8_pN he) nx
    refine ⟨z1, h1, h2, ?_⟩
    rw [di_Y_measure_10]
    refine rgb (by omega) (itn (by omega) (rgb (by omega) ?_))
    by_cases e : (v : Int) = t
    · refine itp e (azb (j := 8 * v + t) (by omega) (by omega) (stNb ?_))
      have e0 : m0 v t = 0 := if_pos (by omega)
      rw [e0] at h3
      exact h3
    · refine itn e (azb (j := 8 * v + t) (by omega) (by omega) (stNb ?_))
      have e0 : m0 v t = 1000000 := if_neg (by omega)
      rw [e0] at h3
      exact h3
theorem meas2 {r : MemI} {K : MemI → Option MemI} : ∀ (m v n : Nat) (z : MemI), v + m = 8 → m < n → e8 r z → P0 v 0 z → ∃ z1, e8 r z1 ∧ P0 8 0 z1 ∧ di_Y_measure_2 K n v z = K z1 := by
  intro m
  induction m with
  | zero =>
    intro v n z hv hn he hP
    obtain ⟨n, rfl⟩ : ∃ q, n = q + 1 := ⟨n - 1, by omega⟩
    have e : v = 8 := by omega
    subst e
    refine ⟨z, he, hP, ?_⟩
    rw [di_Y_measure_2]
    exact rgb (by omega) (itp (by omega) rfl)
  | succ m ih =>
    intro v n z hv hn he hP
    obtain ⟨n, rfl⟩ : ∃ q, n = q + 1 := ⟨n - 1, by omega⟩
    obtain ⟨z1, h1, h2, h3⟩ := meas10 (r := r) (K := fun x1 z5 => di_Y_measure_2 K n (x1 + 1) z5) (v := v) (by omega) 8 0 FU z rfl (by decide) he hP
    obtain ⟨z2, g1, g2, g3⟩ := ih (v + 1) n z1 (by omega) (by omega) h1 (fun v1 t1 hv1 ht1 hlt => h2 v1 t1 hv1 ht1 (by omega))
    refine ⟨z2, g1, g2, ?_⟩
    rw [di_Y_measure_2]
    exact rgb (by omega) (itn (by omega) (h3.trans g3))
/-- the first matrix with the first n links -/
def lkM (fi se co : Nat → Int) : Nat → Mx
  | 0 => m0
  | l + 1 => ln1 (ln1 (lkM fi se co l) (fi l).toNat (se l).toNat (co l)) (se l).toNat (fi l).toNat (co l)
/-- links as they must be -/
def lkOK (n : Nat) (fi se co : Nat → Int) : Prop := ∀ l, l < n → 0 ≤ fi l ∧ fi l ≤ 7 ∧ 0 ≤ se l ∧ se l ≤ 7 ∧ fi l ≠ se l ∧ 1 ≤ co l ∧ co l ≤ 100
theorem lkM_Z {n : Nat} {fi se co : Nat → Int} (h : lkOK n fi se co) : ∀ l, l ≤ n → mZ (lkM fi se co l) ∧ mBd 100 (lkM fi se co l) := by
  intro l
  induction l with
  | zero => intro _; exact ⟨m0_Z, m0_B⟩
  | succ l ih =>
    intro hl
    have x := h l (by omega)
    obtain ⟨i1, i2⟩ := ih (by omega)
    exact ⟨ln1_Z (by omega) (by omega) (ln1_Z (by omega) (by omega) i1), ln1_B (by omega) (ln1_B (by omega) i2)⟩
theorem lkM_K {fi se co : Nat → Int} : ∀ l, mK l fi se co (lkM fi se co l) := by
  intro l
  induction l with
  | zero => intro k hk; exact absurd hk (Nat.not_lt_zero k)
  | succ l ih =>
    intro k hk
    have u := ln1_le (ln1 (lkM fi se co l) (fi l).toNat (se l).toNat (co l)) (se l).toNat (fi l).toNat (co l)
    have u0 := ln1_le (lkM fi se co l) (fi l).toNat (se l).toNat (co l)
    by_cases e : k = l
    · subst e
      have x1 := u (fi k).toNat (se k).toNat
      have x2 := ln1_new (lkM fi se co k) (fi k).toNat (se k).toNat (co k)
      have x3 := ln1_new (ln1 (lkM fi se co k) (fi k).toNat (se k).toNat (co k)) (se k).toNat (fi k).toNat (co k)
      refine ⟨?_, x3⟩
      show ln1 _ _ _ _ _ _ ≤ _
      omega
    · have x := ih k (by omega)
      have y1 := u (fi k).toNat (se k).toNat
      have y2 := u0 (fi k).toNat (se k).toNat
      have y3 := u (se k).toNat (fi k).toNat
      have y4 := u0 (se k).toNat (fi k).toNat
      refine ⟨?_, ?_⟩
      · show ln1 _ _ _ _ _ _ ≤ _
        omega
      · show ln1 _ _ _ _ _ _ ≤ _
        omega
theorem lkM_G {n : Nat} {fi se co : Nat → Int} : ∀ l, l ≤ n → ∀ X : Mx, mCl n fi se co X → ∀ v t, v < 8 → t < 8 → X v t ≤ lkM fi se co l v t := by
  intro l
  induction l with
  | zero => intro _ X hX; exact m0_G hX.1
  | succ l ih =>
    intro hl X hX
    have k := hX.2.2 l (by omega)
    exact ln1_G k.2 (ln1_G k.1 (ih (by omega) X hX))
theorem is8_ln {z : MemI} {M : Mx} {u w : Nat} {c y : Int} (hw : w < 8) (h : is8 z M) (e : ls (M u w) c = y) : is8 (pN z 8 0 (8 * u + w) y) (ln1 M u w c) := by
  intro v t hv ht
  rw [at8 hw ht]
  unfold ln1
  by_cases q : v = u ∧ t = w
  · rw [if_pos q, if_pos q, q.1, q.2, e]
  · rw [if_neg q, if_neg q]
    exact h v t hv ht
theorem meas52 {r : MemI} {K : MemI → Option MemI} {N : Nat} (hN : r.1 0 0 0 = N) (hN12 : N ≤ 12) (hk : lkOK N (r.1 1 0) (r.1 2 0) (r.1 3 0)) : ∀ (m l n : Nat) (z : MemI), l + m = N → m < n → e8 r z → is8 z (lkM (r.1 1 0) (r.1 2 0) (r.1 3 0) l) → ∃ z1, e8 r z1 ∧ is8 z1 (lkM (r.1 1 0) (r.1 2 0) (r.1 3 0) N) ∧ di_Y_measure_52 K n l z = K z1 := by
  intro m
  induction m with
  | zero =>
    intro l n z hl hn he h8
    obtain ⟨n, rfl⟩ : ∃ q, n = q + 1 := ⟨n - 1, by omega⟩
    have e : l = N := by omega
    subst e
    have e0 : z.1 0 0 0 = l := by rw [he.1 0 (by decide)]; exact hN
    refine ⟨z, he, h8, ?_⟩
    rw [di_Y_measure_52]
    exact rgb (by omega) (rgb (by omega) (itp (by omega) rfl))
  | succ m ih =>
    intro l n z hl hn he h8
    obtain ⟨n, rfl⟩ : ∃ q, n = q + 1 := ⟨n - 1, by omega⟩
    have e0 : z.1 0 0 0 = N := by rw [he.1 0 (by decide)]; exact hN
    have e1 : z.1 1 = r.1 1 := he.1 1 (by decide)
    have e2 : z.1 2 = r.1 2 := he.1 2 (by decide)
    have e3 : z.1 3 = r.1 3 := he.1 3 (by decide)
    have x := hk l (by omega)
    obtain ⟨u, hu⟩ : ∃ u : Nat, r.1 1 0 l = u := ⟨(r.1 1 0 l).toNat, by omega⟩
    obtain ⟨w, hw⟩ : ∃ u : Nat, r.1 2 0 l = u := ⟨(r.1 2 0 l).toNat, by omega⟩
    have eu : (r.1 1 0 l).toNat = u := by omega
    have ew : (r.1 2 0 l).toNat = w := by omega
    have zz := lkM_Z hk l (by omega)
    generalize hM : lkM (r.1 1 0) (r.1 2 0) (r.1 3 0) l = M at *
    have hs : lkM (r.1 1 0) (r.1 2 0) (r.1 3 0) (l + 1) = ln1 (ln1 M u w (r.1 3 0 l)) w u (r.1 3 0 l) := by
      show ln1 (ln1 (lkM (r.1 1 0) (r.1 2 0) (r.1 3 0) l) _ _ _) _ _ _ = _
      rw [hM, eu, ew]
    have i1 := is8_ln (z := z) (M := M) (u := u) (w := w) (c := r.1 3 0 l) (by omega) h8 rfl
    have i2 := is8_ln (z := pN z 8 0 (8 * u + w) (ls (M u w) (r.1 3 0 l))) (M := ln1 M u w (r.1 3 0 l)) (u := w) (w := u) (c := r.1 3 0 l) (by omega) i1 rfl
    obtain ⟨z1, g1, g2, g3⟩ := ih (l + 1) n _ (by omega) (by omega) (e8_pN (e8_pN he)) (by rw [hs]; exact i2)
    refine ⟨z1, g1, g2, ?_⟩
    rw [di_Y_measure_52]
    have b1 := zz.1.2 u w (by omega) (by omega)
    have z17 := ln1_Z (M := M) (a := u) (b := w) (c := r.1 3 0 l) (by omega) (by omega) zz.1
    have b2 := z17.2 w u (by omega) (by omega)
    refine rgb (by omega) (rgb (by omega) (itn (by omega) (azb rfl (by omega) (azb rfl (by omega) (stWb ?_)))))
    refine azb rfl (by omega) (azb rfl (by omega) (stWb ?_))
    rw [e1, e2, e3, hu, hw]
    refine azb (j := 8 * u + w) (by omega) (by omega) (azb rfl (by omega) (cab (ylesser ?_ ?_) ?_))
    · rw [h8 u w (by omega) (by omega)]
      unfold ir
      omega
    · unfold ir
      omega
    rw [h8 u w (by omega) (by omega)]
    refine azb (j := 8 * u + w) (by omega) (by omega) (stNb (azb (j := 8 * w + u) (by omega) (by omega) (azb rfl (by omega) ?_)))
    have e3' : (pN z 8 0 (8 * u + w) (ls (M u w) (r.1 3 0 l))).1 3 0 l = r.1 3 0 l := by
      rw [pN_ne (by omega), e3]
    rw [e3', i1 w u (by omega) (by omega)]
    refine cab (ylesser (by unfold ir; omega) (by unfold ir; omega)) (azb (j := 8 * w + u) (by omega) (by omega) (stNb ?_))
    exact g3
/-- the matrix in the middle of a phase -/
def mxd (M : Mx) (k v t : Nat) : Mx := fun v1 t1 => if v1 < v ∨ (v1 = v ∧ t1 < t) then fwm M k v1 t1 else M v1 t1
theorem meas160 {r : MemI} {K : Int → Int → MemI → Option MemI} {M : Mx} {k v : Nat} (hk : k < 8) (hv : v < 8) (hz : mZ M) : ∀ (m t n : Nat) (z : MemI), t + m = 8 → m < n → e8 r z → is8 z (mxd M k v t) → ∃ z1, e8 r z1 ∧ is8 z1 (mxd M k v 8) ∧ di_Y_measure_160 K n k v t z = K k v z1 := by
  intro m
  induction m with
  | zero =>
    intro t n z ht hn he h8
    obtain ⟨n, rfl⟩ : ∃ q, n = q + 1 := ⟨n - 1, by omega⟩
    have e : t = 8 := by omega
    subst e
    refine ⟨z, he, h8, ?_⟩
    rw [di_Y_measure_160]
    exact rgb (by omega) (itp (by omega) rfl)
  | succ m ih =>
    intro t n z ht hn he h8
    obtain ⟨n, rfl⟩ : ∃ q, n = q + 1 := ⟨n - 1, by omega⟩
    have ht8 : t < 8 := by omega
    have hkk := hz.1 k hk
    have r1 : z.1 8 0 (8 * v + t) = M v t := by
      rw [h8 v t hv ht8]
      exact if_neg (by omega)
    have r2 : z.1 8 0 (8 * v + k) = M v k := by
      rw [h8 v k hv hk]
      unfold mxd
      by_cases c : v < v ∨ (v = v ∧ k < t)
      · rw [if_pos c, fwm_col hkk]
      · rw [if_neg c]
    have r3 : z.1 8 0 (8 * k + t) = M k t := by
      rw [h8 k t hk ht8]
      unfold mxd
      by_cases c : k < v ∨ (k = v ∧ t < t)
      · rw [if_pos c, fwm_row hkk]
      · rw [if_neg c]
    have nx : is8 (pN z 8 0 (8 * v + t) (ls (M v t) (M v k + M k t))) (mxd M k v (t + 1)) := by
      intro v1 t1 hv1 ht1
      rw [at8 ht8 ht1]
      by_cases e : v1 = v ∧ t1 = t
      · rw [if_pos e]
        unfold mxd
        rw [if_pos (by omega), e.1, e.2]
        rfl
      · rw [if_neg e, h8 v1 t1 hv1 ht1]
        unfold mxd
        by_cases c : v1 < v ∨ (v1 = v ∧ t1 < t)
        · rw [if_pos c, if_pos (by omega)]
        · rw [if_neg c, if_neg (by omega)]
    obtain ⟨z1, h1, h2, h3⟩ := ih (t + 1) n _ (by omega) (by omega) (e8_pN he) nx
    refine ⟨z1, h1, h2, ?_⟩
    have b1 := hz.2 v t hv ht8
    have b2 := hz.2 v k hv hk
    have b3 := hz.2 k t hk ht8
    rw [di_Y_measure_160]
    refine rgb (by omega) (itn (by omega) (azb (j := 8 * v + t) (by omega) (by omega) (azb (j := 8 * v + k) (by omega) (by omega) (azb (j := 8 * k + t) (by omega) (by omega) ?_))))
    rw [r1, r2, r3]
    exact cab (ylesser (by unfold ir; omega) (by unfold ir; omega)) (azb (j := 8 * v + t) (by omega) (by omega) (stNb h3))
theorem meas152 {r : MemI} {K : Int → MemI → Option MemI} {M : Mx} {k : Nat} (hk : k < 8) (hz : mZ M) : ∀ (m v n : Nat) (z : MemI), v + m = 8 → m < n → e8 r z → is8 z (mxd M k v 0) → ∃ z1, e8 r z1 ∧ is8 z1 (mxd M k 8 0) ∧ di_Y_measure_152 K n k v z = K k z1 := by
  intro m
  induction m with
  | zero =>
    intro v n z hv hn he h8
    obtain ⟨n, rfl⟩ : ∃ q, n = q + 1 := ⟨n - 1, by omega⟩
    have e : v = 8 := by omega
    subst e
    refine ⟨z, he, h8, ?_⟩
    rw [di_Y_measure_152]
    exact rgb (by omega) (itp (by omega) rfl)
  | succ m ih =>
    intro v n z hv hn he h8
    obtain ⟨n, rfl⟩ : ∃ q, n = q + 1 := ⟨n - 1, by omega⟩
    obtain ⟨z1, h1, h2, h3⟩ := meas160 (r := r) (K := fun x1 x2 z30 => di_Y_measure_152 K n x1 (x2 + 1) z30) (v := v) hk (by omega) hz 8 0 FU z rfl (by decide) he h8
    obtain ⟨z2, g1, g2, g3⟩ := ih (v + 1) n z1 (by omega) (by omega) h1 (fun v1 t1 hv1 ht1 => by
      rw [h2 v1 t1 hv1 ht1]
      unfold mxd
      by_cases c : v1 < v ∨ (v1 = v ∧ t1 < 8)
      · rw [if_pos c, if_pos (by omega)]
      · rw [if_neg c, if_neg (by omega)])
    refine ⟨z2, g1, g2, ?_⟩
    rw [di_Y_measure_152]
    exact rgb (by omega) (itn (by omega) (h3.trans g3))
def fwS (M : Mx) : Nat → Mx
  | 0 => M
  | k + 1 => fwm (fwS M k) k
theorem fwS_ok {n : Nat} {fi se co : Nat → Int} {M : Mx} (hz : mZ M) (hK : mK n fi se co M) (hG : mGr n fi se co M) (hB : mBd 100 M) : ∀ k, k ≤ 8 → mZ (fwS M k) ∧ mU k (fwS M k) ∧ mK n fi se co (fwS M k) ∧ mGr n fi se co (fwS M k) ∧ mBd (100 * 2 ^ k) (fwS M k) := by
  intro k
  induction k with
  | zero => intro _; exact ⟨hz, fun u hu => absurd hu (Nat.not_lt_zero u), hK, hG, hB⟩
  | succ k ih =>
    intro hk
    obtain ⟨i1, i2, i3, i4, i5⟩ := ih (by omega)
    refine ⟨fwm_Z (by omega) i1, fwm_U (by omega) i1 i2, fwm_K i3, fwm_G (by omega) i4, ?_⟩
    have x := fwm_B (k := k) (b := 100 * 2 ^ k) (by have : (0 : Int) ≤ 2 ^ k := Int.pow_nonneg (by omega); omega) (by omega) i1 i5
    rw [show (100 : Int) * 2 ^ (k + 1) = 2 * (100 * 2 ^ k) by rw [Int.pow_succ]; omega]
    exact x
theorem meas144 {r : MemI} {K : MemI → Option MemI} {M : Mx} (hz : ∀ k, k ≤ 8 → mZ (fwS M k)) : ∀ (m k n : Nat) (z : MemI), k + m = 8 → m < n → e8 r z → is8 z (fwS M k) → ∃ z1, e8 r z1 ∧ is8 z1 (fwS M 8) ∧ di_Y_measure_144 K n k z = K z1 := by
  intro m
  induction m with
  | zero =>
    intro k n z hk hn he h8
    obtain ⟨n, rfl⟩ : ∃ q, n = q + 1 := ⟨n - 1, by omega⟩
    have e : k = 8 := by omega
    subst e
    refine ⟨z, he, h8, ?_⟩
    rw [di_Y_measure_144]
    exact rgb (by omega) (itp (by omega) rfl)
  | succ m ih =>
    intro k n z hk hn he h8
    obtain ⟨n, rfl⟩ : ∃ q, n = q + 1 := ⟨n - 1, by omega⟩
    obtain ⟨z1, h1, h2, h3⟩ := meas152 (r := r) (K := fun x1 z31 => di_Y_measure_144 K n (x1 + 1) z31) (k := k) (by omega) (hz k (by omega)) 8 0 FU z rfl (by decide) he (fun v1 t1 hv1 ht1 => by
      rw [h8 v1 t1 hv1 ht1]
      exact (if_neg (by omega)).symm)
    obtain ⟨z2, g1, g2, g3⟩ := ih (k + 1) n z1 (by omega) (by omega) h1 (fun v1 t1 hv1 ht1 => by
      rw [h2 v1 t1 hv1 ht1]
      exact if_pos (by omega))
    refine ⟨z2, g1, g2, ?_⟩
    rw [di_Y_measure_144]
    exact rgb (by omega) (itn (by omega) (h3.trans g3))
theorem mK_c {n : Nat} {fi se co : Nat → Int} {M N : Mx} (hk : lkOK n fi se co) (e : ∀ v t, v < 8 → t < 8 → N v t = M v t) (h : mK n fi se co M) : mK n fi se co N := by
  intro k hk2
  have x := hk k hk2
  rw [e _ _ (by omega) (by omega), e _ _ (by omega) (by omega)]
  exact h k hk2
theorem mZ_c {M N : Mx} (e : ∀ v t, v < 8 → t < 8 → N v t = M v t) (h : mZ M) : mZ N :=
  ⟨fun v hv => by rw [e v v hv hv]; exact h.1 v hv, fun v t hv ht => by rw [e v t hv ht]; exact h.2 v t hv ht⟩
theorem mT_c {M N : Mx} (e : ∀ v t, v < 8 → t < 8 → N v t = M v t) (h : mT M) : mT N :=
  fun v u t hv hu ht => by rw [e v t hv ht, e v u hv hu, e u t hu ht]; exact h v u t hv hu ht
theorem mGr_c {n : Nat} {fi se co : Nat → Int} {M N : Mx} (e : ∀ v t, v < 8 → t < 8 → N v t = M v t) (h : mGr n fi se co M) : mGr n fi se co N :=
  fun X hX v t hv ht => by rw [e v t hv ht]; exact h X hX v t hv ht
theorem mBd_c {b : Int} {M N : Mx} (e : ∀ v t, v < 8 → t < 8 → N v t = M v t) (h : mBd b M) : mBd b N :=
  fun v t hv ht => by rw [e v t hv ht]; exact h v t hv ht
theorem ymeasure {r : MemI} {N : Nat} (hN : r.1 0 0 0 = N) (hN12 : N ≤ 12) (hk : lkOK N (r.1 1 0) (r.1 2 0) (r.1 3 0)) : ∃ z, di_Y_measure r = some z ∧ e8 r z ∧ mCl N (r.1 1 0) (r.1 2 0) (r.1 3 0) (rM z) ∧ mGr N (r.1 1 0) (r.1 2 0) (r.1 3 0) (rM z) ∧ mBd 25600 (rM z) := by
  obtain ⟨z1, a1, a2, a3⟩ := meas2 (r := r) (K := fun z6 => di_Y_measure_52 (fun z23 => di_Y_measure_144 (fun z32 => some z32) FU 0 z23) FU 0 z6) 8 0 FU r rfl (by decide) (e8_rf r) (fun v1 t1 _ _ hlt => by omega)
  obtain ⟨z2, b1, b2, b3⟩ := meas52 (r := r) (K := fun z23 => di_Y_measure_144 (fun z32 => some z32) FU 0 z23) hN hN12 hk N 0 FU z1 (by omega) (Nat.lt_of_le_of_lt hN12 (by decide)) a1 (fun v t hv ht => a2 v t hv ht (Or.inl hv))
  have zz := lkM_Z hk N (Nat.le_refl _)
  have ok := fwS_ok zz.1 (lkM_K N) (fun X hX => lkM_G N (Nat.le_refl _) X hX) zz.2
  obtain ⟨z3, c1, c2, c3⟩ := meas144 (r := r) (K := fun z32 => some z32) (fun k hk => (ok k hk).1) 8 0 FU z2 rfl (by decide) b1 b2
  obtain ⟨o1, o2, o3, o4, o5⟩ := ok 8 (Nat.le_refl _)
  have e : ∀ v t, v < 8 → t < 8 → rM z3 v t = fwS (lkM (r.1 1 0) (r.1 2 0) (r.1 3 0) N) 8 v t := fun v t hv ht => c2 v t hv ht
  exact ⟨z3, a3.trans (b3.trans c3), c1, ⟨mZ_c e o1, mT_c e (mU_T o2), mK_c hk e o3⟩, mGr_c e o4, mBd_c e o5⟩
