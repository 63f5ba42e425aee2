/-! ===== the class's distances over a new link ===== -/
def enc (m : Int) : Int := if m = 1000000 then -1 else m
def e2 (r z : MemI) : Prop := (∀ c, c ≠ 2 → z.1 c = r.1 c) ∧ z.2 = r.2
def is2 (z : MemI) (M : Mx) : Prop := ∀ v t, v < 8 → t < 8 → z.1 2 v t = enc (M v t)
theorem e2_rf (r : MemI) : e2 r r := ⟨fun _ _ => rfl, rfl⟩
theorem e2_tr {x y z : MemI} (h1 : e2 x y) (h2 : e2 y z) : e2 x z := ⟨fun c hc => (h2.1 c hc).trans (h1.1 c hc), h2.2.trans h1.2⟩
theorem e2_pN {r z : MemI} {i j : Nat} {x : Int} (h : e2 r z) : e2 r (pN z 2 i j x) := by
  refine ⟨fun c hc => ?_, h.2⟩
  rw [← h.1 c hc]
  funext i k
  exact pN_ne (fun q => hc q.1)
def mxs (M : Mx) (u w : Nat) (c : Int) (v t : Nat) : Mx := fun v1 t1 => if v1 < v ∨ (v1 = v ∧ t1 < t) then sh M u w c v1 t1 else M v1 t1
theorem shr13 {r : MemI} {K : Int → Int → Int → Int → MemI → Option MemI} {M : Mx} {u w v : Nat} {c d : Int} (hu : u < 8) (hw : w < 8) (hv : v < 8) (hc : 1 ≤ c ∧ c ≤ 100) (hz : mZ M) (hb : mBd d M) (hd : 0 ≤ d ∧ d ≤ 100000) :
    ∀ (m t n : Nat) (z : MemI), t + m = 8 → m < n → e2 r z → is2 z (mxs M u w c v t) → ∃ z1, e2 r z1 ∧ is2 z1 (mxs M u w c v 8) ∧ di_X_shortenOver_13 K n u w c v t z = K u w c v z1 := by
  intro m
  induction m with
  | zero =>
    intro t n z ht hn he h2
    obtain ⟨n, rfl⟩ : ∃ q, n = q + 1 := ⟨n - 1, by omega⟩
    have e : t = 8 := by omega
    subst e
    refine ⟨z, he, h2, ?_⟩
    rw [di_X_shortenOver_13]
    exact rgb (by omega) (itp (by omega) rfl)
  | succ m ih =>
    intro t n z ht hn he h2
    obtain ⟨n, rfl⟩ : ∃ q, n = q + 1 := ⟨n - 1, by omega⟩
    have ht8 : t < 8 := by omega
    have zwu := hz.2 w u hw hu
    have zvu := hz.2 v u hv hu
    have zwt := hz.2 w t hw ht8
    have zvt := hz.2 v t hv ht8
    have bvu := hb v u hv hu
    have bwt := hb w t hw ht8
    have bvt := hb v t hv ht8
    have r1 : z.1 2 v t = enc (M v t) := by
      rw [h2 v t hv ht8]
      unfold mxs
      rw [if_neg (by omega)]
    have r2 : z.1 2 v u = enc (M v u) := by
      rw [h2 v u hv hu]
      unfold mxs
      by_cases q : v < v ∨ (v = v ∧ u < t)
      · rw [if_pos q, sh_col hc.1 zwu.1]
      · rw [if_neg q]
    have r3 : z.1 2 w t = enc (M w t) := by
      rw [h2 w t hw ht8]
      unfold mxs
      by_cases q : w < v ∨ (w = v ∧ t < t)
      · rw [if_pos q, sh_row hc.1 zwu.1]
      · rw [if_neg q]
    have ek : sh M u w c v t = ls (M v u + c + M w t) (M v t) := rfl
    have kc := ls_c (M v u + c + M w t) (M v t)
    have keep : sh M u w c v t = M v t → is2 z (mxs M u w c v (t + 1)) := by
      intro e v1 t1 hv1 ht1
      rw [h2 v1 t1 hv1 ht1]
      unfold mxs
      by_cases q : v1 = v ∧ t1 = t
      · rw [if_neg (by omega), if_pos (by omega), q.1, q.2, e]
      · by_cases q2 : v1 < v ∨ (v1 = v ∧ t1 < t)
        · rw [if_pos q2, if_pos (by omega)]
        · rw [if_neg q2, if_neg (by omega)]
    have put : ∀ x, enc (sh M u w c v t) = x → is2 (pN z 2 v t x) (mxs M u w c v (t + 1)) := by
      intro x e v1 t1 hv1 ht1
      rw [pN_if]
      by_cases q : v1 = v ∧ t1 = t
      · rw [if_pos ⟨rfl, q.1, q.2⟩]
        unfold mxs
        rw [if_pos (by omega), q.1, q.2, e]
      · rw [if_neg (fun q3 => q q3.2), h2 v1 t1 hv1 ht1]
        unfold mxs
        by_cases q2 : v1 < v ∨ (v1 = v ∧ t1 < t)
        · rw [if_pos q2, if_pos (by omega)]
        · rw [if_neg q2, if_neg (by omega)]
    unfold enc at r1 r2 r3
    rw [di_X_shortenOver_13]
    by_cases c1 : M v u = 1000000
    · rw [if_pos c1] at r2
      obtain ⟨z1, g1, g2, g3⟩ := ih (t + 1) n z (by omega) (by omega) he (keep (by omega))
      exact ⟨z1, g1, g2, rgb (by omega) (itn (by omega) (azb rfl hv (azb rfl hu (rgb (by omega) (itp r2 g3)))))⟩
    · rw [if_neg c1] at r2
      by_cases c2 : M w t = 1000000
      · rw [if_pos c2] at r3
        obtain ⟨z1, g1, g2, g3⟩ := ih (t + 1) n z (by omega) (by omega) he (keep (by omega))
        exact ⟨z1, g1, g2, rgb (by omega) (itn (by omega) (azb rfl hv (azb rfl hu (rgb (by omega) (itn (by omega) (azb rfl hw (azb rfl ht8 (rgb (by omega) (itp r3 g3)))))))))⟩
      · rw [if_neg c2] at r3
        by_cases c3 : M v t = 1000000
        · rw [if_pos c3] at r1
          obtain ⟨z1, g1, g2, g3⟩ := ih (t + 1) n _ (by omega) (by omega) (e2_pN he) (put (z.1 2 v u + c + z.1 2 w t) (by unfold enc; rw [if_neg (by omega)]; omega))
          exact ⟨z1, g1, g2, rgb (by omega) (itn (by omega) (azb rfl hv (azb rfl hu (rgb (by omega) (itn (by omega) (azb rfl hw (azb rfl ht8 (rgb (by omega) (itn (by omega) (azb rfl hv (azb rfl hu (azb rfl hw (azb rfl ht8 (stWb (azb rfl hv (azb rfl ht8 (rgb (by omega) (itp r1 (azb rfl hv (azb rfl ht8 (stNb g3)))))))))))))))))))))⟩
        · rw [if_neg c3] at r1
          by_cases c4 : z.1 2 v t ≤ z.1 2 v u + c + z.1 2 w t
          · obtain ⟨z1, g1, g2, g3⟩ := ih (t + 1) n z (by omega) (by omega) he (keep (by omega))
            exact ⟨z1, g1, g2, rgb (by omega) (itn (by omega) (azb rfl hv (azb rfl hu (rgb (by omega) (itn (by omega) (azb rfl hw (azb rfl ht8 (rgb (by omega) (itn (by omega) (azb rfl hv (azb rfl hu (azb rfl hw (azb rfl ht8 (stWb (azb rfl hv (azb rfl ht8 (rgb (by omega) (itn (by omega) (azb rfl hv (azb rfl ht8 (rgb (by omega) (rgb (by omega) (itp c4 g3)))))))))))))))))))))))⟩
          · obtain ⟨z1, g1, g2, g3⟩ := ih (t + 1) n _ (by omega) (by omega) (e2_pN he) (put (z.1 2 v u + c + z.1 2 w t) (by unfold enc; rw [if_neg (by omega)]; omega))
            exact ⟨z1, g1, g2, rgb (by omega) (itn (by omega) (azb rfl hv (azb rfl hu (rgb (by omega) (itn (by omega) (azb rfl hw (azb rfl ht8 (rgb (by omega) (itn (by omega) (azb rfl hv (azb rfl hu (azb rfl hw (azb rfl ht8 (stWb (azb rfl hv (azb rfl ht8 (rgb (by omega) (itn (by omega) (azb rfl hv (azb rfl ht8 (rgb (by omega) (rgb (by omega) (itn c4 (azb rfl hv (azb rfl ht8 (stNb g3))))))))))))))))))))))))))⟩
theorem shr3 {r : MemI} {K : MemI → Option MemI} {M : Mx} {u w : Nat} {c d : Int} (hu : u < 8) (hw : w < 8) (hc : 1 ≤ c ∧ c ≤ 100) (hz : mZ M) (hb : mBd d M) (hd : 0 ≤ d ∧ d ≤ 100000) :
    ∀ (m v n : Nat) (z : MemI), v + m = 8 → m < n → e2 r z → is2 z (mxs M u w c v 0) → ∃ z1, e2 r z1 ∧ is2 z1 (mxs M u w c 8 0) ∧ di_X_shortenOver_3 K n u w c v z = K z1 := by
  intro m
  induction m with
  | zero =>
    intro v n z hv hn he h2
    obtain ⟨n, rfl⟩ : ∃ q, n = q + 1 := ⟨n - 1, by omega⟩
    have e : v = 8 := by omega
    subst e
    refine ⟨z, he, h2, ?_⟩
    rw [di_X_shortenOver_3]
    exact rgb (by omega) (itp (by omega) rfl)
  | succ m ih =>
    intro v n z hv hn he h2
    obtain ⟨n, rfl⟩ : ∃ q, n = q + 1 := ⟨n - 1, by omega⟩
    obtain ⟨z1, h1, h3, h4⟩ := shr13 (r := r) (K := fun x1 x2 x3 x4 z20 => di_X_shortenOver_3 K n x1 x2 x3 (x4 + 1) z20) (v := v) hu hw (by omega) hc hz hb hd 8 0 FU z rfl (by decide) he h2
    obtain ⟨z2, g1, g2, g3⟩ := ih (v + 1) n z1 (by omega) (by omega) h1 (fun v1 t1 hv1 ht1 => by
      rw [h3 v1 t1 hv1 ht1]
      unfold mxs
      by_cases q : v1 < v ∨ (v1 = v ∧ t1 < 8)
      · rw [if_pos q, if_pos (by omega)]
      · rw [if_neg q, if_neg (by omega)])
    refine ⟨z2, g1, g2, ?_⟩
    rw [di_X_shortenOver_3]
    exact rgb (by omega) (itn (by omega) (h4.trans g3))
theorem shorten {z : MemI} {M : Mx} {u w : Nat} {c d : Int} (hu : u < 8) (hw : w < 8) (hc : 1 ≤ c ∧ c ≤ 100) (hz : mZ M) (hb : mBd d M) (hd : 0 ≤ d ∧ d ≤ 100000) (h2 : is2 z M) : ∃ z1, di_X_shortenOver u w c z = some z1 ∧ e2 z z1 ∧ is2 z1 (sh M u w c) := by
  obtain ⟨z1, g1, g2, g3⟩ := shr3 (r := z) (K := fun z21 => some z21) hu hw hc hz hb hd 8 0 FU z rfl (by decide) (e2_rf z) (fun v1 t1 hv1 ht1 => by
    rw [h2 v1 t1 hv1 ht1]
    unfold mxs
    rw [if_neg (by omega)])
  refine ⟨z1, g3, g1, fun v t hv ht => ?_⟩
  rw [g2 v t hv ht]
  unfold mxs
  rw [if_pos (by omega)]
theorem lay_eq {p : Nat} {x1 x2 x3 x4 x5 : Int} {z : MemI} : ∃ z1, di_P_lay p x1 x2 x3 x4 x5 z = some z1 ∧ (∀ c i k, ¬ (c = 4 ∧ i = p) → ¬ (c = 7 ∧ i = p) → z1.1 c i k = z.1 c i k) ∧ z1.2 = z.2 ∧
    (z1.1 4 p 0 = x1 ∧ z1.1 4 p 1 = x2 ∧ z1.1 4 p 2 = x3 ∧ z1.1 4 p 3 = x4 ∧ z1.1 4 p 4 = x5 ∧ z1.1 4 p 5 = 8 ∧ z1.1 4 p 6 = 4 ∧ z1.1 4 p 7 = -1 ∧ z1.1 4 p 8 = 0 ∧ z1.1 4 p 9 = 0 ∧ z1.1 4 p 10 = 0) ∧ ∀ f, f < 6 → z1.1 7 p f = 0 := by
  obtain ⟨z1, f1, f2, f3, f4⟩ := fill7 (x := 0) (K := fun z3 => some z3) (x0 := p) 6 0 FU (pN (pN (pN (pN (pN (pN (pN (pN (pN (pN (pN z 4 p 0 x1) 4 p 1 x2) 4 p 2 x3) 4 p 3 x4) 4 p 4 x5) 4 p 5 8) 4 p 6 4) 4 p 7 (-1)) 4 p 8 0) 4 p 9 0) 4 p 10 0) rfl (by decide)
  refine ⟨z1, ?_, fun c i k h4 h7 => ?_, f2, ?_, fun f hf => by rw [f3 f hf, if_pos (Nat.zero_le _)]⟩
  · exact stNb (stNb (stNb (stNb (stNb (stNb (stNb (stNb (stNb (stNb (bz0b (stNb (cab (v := z1) f4 rfl))))))))))))
  · rw [f1 c i k h7]
    simp only [pN_if]
    repeat rw [if_neg (fun q => h4 ⟨q.1, q.2.1⟩)]
  · have g : ∀ k, z1.1 4 p k = (pN (pN (pN (pN (pN (pN (pN (pN (pN (pN (pN z 4 p 0 x1) 4 p 1 x2) 4 p 2 x3) 4 p 3 x4) 4 p 4 x5) 4 p 5 8) 4 p 6 4) 4 p 7 (-1)) 4 p 8 0) 4 p 9 0) 4 p 10 0).1 4 p k := fun k => f1 4 p k (by omega)
    simp only [g, pN_if]
    simp
