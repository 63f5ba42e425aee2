/-! ===== ARRIVE ===== -/
section ARRIVE
variable {B B1 : Int} {a r : MemI} {f k p : Nat} {t n v : Int}
theorem data_r (H : Rel B 64 a r) (hB : B < 400000000) (hf : (f : Int) < r.1 0 0 9) (hst : r.1 19 0 f = -1) (hbg : r.1 0 0 35 = 1) (hn : 0 ≤ n ∧ n < 100) (hv : v = a.1 9 f 1) : ∃ a1 r1, di_X_takeData f n a = some a1 ∧ di_Y_make f (if n = r.1 18 0 f then n + 1 else r.1 18 0 f) 1 v (pN r 18 0 f (if n = r.1 18 0 f then n + 1 else r.1 18 0 f)) = some r1 ∧ Rel (B + 270) 64 a1 r1 ∧ r1.1 0 0 35 = 1 := by
  have hG := H.G
  unfold rG at hG
  have F := H.F f hf
  generalize he : (if n = r.1 18 0 f then n + 1 else r.1 18 0 f) = e
  have er : 0 ≤ e ∧ e ≤ 100 := by rw [← he]; split <;> omega
  have H1 := num_rel (f := f) (i := 2) (n := e) H (by omega) er ⟨fun q => by omega, fun q => by omega⟩
  obtain ⟨kk, b1, b2, q2, m1, m2, m3, H3, fr3, s0, s1⟩ := mkput (v := v) (n := e) (ans := 1) H1 (by omega) hf hst hbg (Or.inr rfl) ⟨er.1, er.2, fun q => by omega⟩ (by unfold ir; omega)
  refine ⟨b2, q2, ?_, m3, H3, by rw [fr3.2 35 (by decide)]; exact hbg⟩
  have s2 : b1.1 9 f 1 = v := by
    rw [s1, hv, pN_ne (by omega)]
  refine azb rfl (by omega) (rgb (by omega) (rgb (by omega) ?_))
  by_cases c : n = a.1 9 f 9
  · have e1 : e = a.1 9 f 9 + 1 := by rw [← he, if_pos (by omega)]; omega
    refine itp c (stNb ?_)
    have e2 : (pN a 9 f 9 (a.1 9 f 9 + 1)).1 9 f 9 = e := by rw [pN_at, e1]
    rw [e2, ← e1]
    refine cab m1 ?_
    dsimp only
    rw [s2]
    exact cab m2 rfl
  · have e1 : e = a.1 9 f 9 := by rw [← he, if_neg (by omega)]; omega
    have e2 : pN a 9 f (7 + 2) e = a := by rw [e1]; exact pN_same a 9 f 9
    rw [e2] at m1
    refine itn c ?_
    rw [← e1]
    refine cab m1 ?_
    dsimp only
    rw [s2]
    exact cab m2 rfl
theorem base_r (H : Rel B 64 a r) (hB : B < 400000000) (hf : (f : Int) < r.1 0 0 9) (hst : r.1 19 0 f = -1) (hbg : r.1 0 0 35 = 1) (hn : 0 ≤ n ∧ n ≤ 100) (hb : r.1 16 0 f < n) : ∃ a1 r1 r2 : MemI, di_X_moveBase f n a = some a1 ∧ a1.1 11 = a.1 11 ∧ r2 = pN (pN (pN r 16 0 f n) 17 0 f (if n ≤ r.1 17 0 f then r.1 17 0 f else n)) 21 0 f (-1) ∧
    (∀ R, di_Y_fill f r1 = R → (if r2.1 17 0 f ≤ r2.1 16 0 f then di_Y_fill f r2 else (di_Y_setTimeout f r2).bind fun z24 => di_Y_fill f z24) = R) ∧ Rel (B + 201) 64 a1 r1 ∧ r1.1 0 0 9 = r.1 0 0 9 ∧ r1.1 19 0 f = -1 ∧ r1.1 0 0 35 = 1 ∧ ir (r2.1 17 0 f) ∧ ir (r2.1 16 0 f) := by
  have hG := H.G
  unfold rG at hG
  have hf6 : f < 6 := by omega
  have F := H.F f hf
  generalize hm : (if n ≤ r.1 17 0 f then r.1 17 0 f else n) = m
  have mr : 0 ≤ m ∧ m ≤ 100 ∧ n ≤ m ∧ r.1 16 0 f ≤ m := by rw [← hm]; split <;> omega
  have H1 := num_rel (f := f) (i := 1) (n := m) H (by omega) ⟨mr.1, mr.2.1⟩ ⟨fun q => by omega, fun _ => mr.2.2.2⟩
  have H2 := num_rel (f := f) (i := 0) (n := n) H1 (by omega) hn ⟨fun _ => by rw [pN_at]; exact mr.2.2.1, fun q => by omega⟩
  have H3 := unf_rel (f := f) (c := 21) H2 hf (Or.inr ⟨rfl, hst⟩) hbg
  rw [pN_comm a (c := 9) (i := f) (k := 7 + 1) (by omega), pN_comm r (c := 16 + 1) (by omega)] at H3
  have e17 : (pN (pN (pN r 16 0 f n) 17 0 f m) 21 0 f (-1)).1 17 0 f = m := by rw [pN_ne (by omega), pN_at]
  have e16 : (pN (pN (pN r 16 0 f n) 17 0 f m) 21 0 f (-1)).1 16 0 f = n := by rw [pN_ne (by omega), pN_ne (by omega), pN_at]
  have x8 : (pN (pN (pN a 9 f 7 n) 9 f 8 m) 13 0 f 0).1 9 f 8 = m := by rw [pN_ne (by omega), pN_at]
  have x7 : (pN (pN (pN a 9 f 7 n) 9 f 8 m) 13 0 f 0).1 9 f 7 = n := by rw [pN_ne (by omega), pN_ne (by omega), pN_at]
  have x11 : (pN (pN (pN a 9 f 7 n) 9 f 8 m) 13 0 f 0).1 11 = a.1 11 := by
    funext i j
    rw [pN_ne (by omega), pN_ne (by omega), pN_ne (by omega)]
  have sX : ∀ R, (if m ≤ n then some (pN (pN (pN a 9 f 7 n) 9 f 8 m) 13 0 f 0) else (di_X_setTimer f (pN (pN (pN a 9 f 7 n) 9 f 8 m) 13 0 f 0)).bind fun z6 => some z6) = R → di_X_moveBase f n a = R := by
    intro R hR
    refine azb rfl hf6 (stNb ?_)
    have e8 : (pN a 9 f 7 n).1 9 f 8 = r.1 17 0 f := by rw [pN_ne (by omega)]; omega
    rw [e8]
    refine cab (mmax (by unfold ir; omega) (by unfold ir; omega)) (stNb ?_)
    have em : (if r.1 17 0 f < n then n else r.1 17 0 f) = m := by rw [← hm]; split <;> split <;> omega
    rw [em]
    refine cab (show di_A_unset f (pN (pN a 9 f 7 n) 9 f 8 m) = some (pN (pN (pN a 9 f 7 n) 9 f 8 m) 13 0 f 0) from azb rfl (by omega) rfl) ?_
    rw [x8, x7]
    exact rgb (by omega) (rgb (by omega) hR)
  by_cases c : m ≤ n
  · refine ⟨_, _, _, sX _ (itp c rfl), x11, rfl, fun R hR => ?_, H3.mono (by omega), rfl, hst, hbg, ?_, ?_⟩
    · rw [e17, e16]
      exact itp c hR
    · rw [e17]; unfold ir; omega
    · rw [e16]; unfold ir; omega
  · have HT := timer_rel (f := f) H3 hf hst hbg
    refine ⟨_, _, _, sX _ (itn c (cab (xtimer hf6) rfl)), ?_, rfl, fun R hR => ?_, HT, rfl, hst, hbg, ?_, ?_⟩
    · rw [agS_o (by decide) (by decide) (by decide) (by decide)]
      exact x11
    · rw [e17, e16]
      exact itn c (cab (ytimer hf6) hR)
    · rw [e17]; unfold ir; omega
    · rw [e16]; unfold ir; omega
theorem yarr {w : Nat} {y8 r3 : MemI} {e : Int} (H : Rel B k a r) (hk : k < 64) (h28 : r.1 28 0 k = p) (hp24 : p < 24) (hw : (if p % 2 = 0 then r.1 2 0 (p / 2) else r.1 1 0 (p / 2)) = (w : Int)) (hw8 : w < 8) (h25 : r.1 25 0 k = f) (hy8 : y8 = pN (pN r 24 0 k 0) 23 0 (4 * f + 1) (r.1 23 0 (4 * f + 1) + 1))
    (he : e = if r.1 26 0 k = r.1 18 0 f then r.1 26 0 k + 1 else r.1 18 0 f) (hr3 : r3 = pN (pN (pN y8 16 0 f (r.1 26 0 k)) 17 0 f (if r.1 26 0 k ≤ r.1 17 0 f then r.1 17 0 f else r.1 26 0 k)) 21 0 f (-1)) : ∀ R, (if (w : Int) = a.1 11 k 5 then (if r.1 27 0 k = 0 then di_Y_make f e 1 w (pN y8 18 0 f e) else if r.1 26 0 k ≤ r.1 16 0 f then some y8 else if r3.1 17 0 f ≤ r3.1 16 0 f then di_Y_fill f r3 else (di_Y_setTimeout f r3).bind fun z24 => di_Y_fill f z24) else di_Y_put k w r) = R → di_Y_arrive k r = R := by
  intro R hR
  have hG := H.G
  unfold rG at hG
  have lab := (H.P.2 hk).2.2
  have lab2 := lab
  unfold rLab at lab2
  have hf : (f : Int) < r.1 0 0 9 := by omega
  have hf6 : f < 6 := by omega
  have F := H.F f hf
  have f25 : (r.1 25 0 k).toNat = f := by omega
  rw [f25] at lab2
  have az : ∀ g : Nat → Option MemI, (aiz 64 (k : Int)).bind g = g k := fun g => azb rfl hk rfl
  have az6 : ∀ g : Nat → Option MemI, (aiz 6 (f : Int)).bind g = g f := fun g => azb rfl hf6 rfl
  have az24 : ∀ g : Nat → Option MemI, (aiz 24 ((4 : Int) * (f : Int) + 1)).bind g = g (4 * f + 1) := fun g => azb (by omega) (by omega) rfl
  have id1 : ∀ o : Option MemI, (o.bind fun z => some z) = o := fun o => by cases o <;> rfl
  unfold di_Y_arrive
  rw [az, h28]
  refine cab (yleads hp24) ?_
  dsimp only
  rw [hw]
  refine cab (yend (r := r) (a := a) hk (by omega) lab rfl rfl rfl rfl) ?_
  dsimp only
  have r5 : 0 ≤ a.1 11 k 5 ∧ a.1 11 k 5 ≤ 7 := by
    have q := lab2.2.2.2.2.2.2.2.2.2.2
    split at q <;> omega
  refine rgb (by omega) (rgb (by omega) ?_)
  by_cases c : (w : Int) = a.1 11 k 5
  · rw [if_pos c] at hR
    refine itp c ?_
    simp only [az, h25, az6, az24, id1]
    refine stNb (stNb ?_)
    have e23 : (pN r 24 0 k 0).1 23 0 (4 * f + 1) = r.1 23 0 (4 * f + 1) := rfl
    rw [e23, ← hy8]
    have e27 : y8.1 27 0 k = r.1 27 0 k := by rw [hy8]; rfl
    have e18 : y8.1 18 0 f = r.1 18 0 f := by rw [hy8]; rfl
    have e16 : y8.1 16 0 f = r.1 16 0 f := by rw [hy8]; rfl
    have e17 : y8.1 17 0 f = r.1 17 0 f := by rw [hy8]; rfl
    rw [e27, e18, e16]
    refine rgb (by omega) ?_
    by_cases c7 : r.1 27 0 k = 0
    · rw [if_pos c7] at hR
      refine itp c7 (rgb (by omega) (rgb (by omega) ?_))
      by_cases d : r.1 26 0 k = r.1 18 0 f
      · rw [if_pos d] at he
        refine itp d (stNb ?_)
        rw [pN_at, ← he]
        exact hR
      · rw [if_neg d] at he
        refine itn d (stNb ?_)
        rw [pN_at, ← he]
        exact hR
    · rw [if_neg c7] at hR
      refine itn c7 (rgb (by omega) (rgb (by omega) ?_))
      by_cases d : r.1 26 0 k ≤ r.1 16 0 f
      · rw [if_pos d] at hR
        exact itp d hR
      · rw [if_neg d] at hR
        refine itn d (stNb ?_)
        have e17b : (pN y8 16 0 f (r.1 26 0 k)).1 17 0 f = r.1 17 0 f := e17
        rw [e17b]
        have v17 : ∀ x : Int, (pN (pN (pN y8 16 0 f (r.1 26 0 k)) 17 0 f x) 21 0 f (-1)).1 17 0 f = x := fun x => by rw [pN_ne (by omega), pN_at]
        have v16 : ∀ x : Int, (pN (pN (pN y8 16 0 f (r.1 26 0 k)) 17 0 f x) 21 0 f (-1)).1 16 0 f = r.1 26 0 k := fun x => by rw [pN_ne (by omega), pN_ne (by omega), pN_at]
        refine rgb (by omega) ?_
        by_cases g : r.1 26 0 k ≤ r.1 17 0 f
        · rw [if_pos g] at hr3
          refine itp g (stNb (stNb (rgb ?_ (rgb ?_ ?_))))
          · rw [v17]; omega
          · rw [v16]; omega
          · rw [← hr3]; exact hR
        · rw [if_neg g] at hr3
          refine itn g (stNb (stNb (rgb ?_ (rgb ?_ ?_))))
          · rw [v17]; omega
          · rw [v16]; omega
          · rw [← hr3]; exact hR
  · rw [if_neg c] at hR
    refine itn c ?_
    rw [id1]
    exact hR
theorem arrive_r (H : Rel B 64 a r) (hB : B < 300000000) (hk : k < 64) (k24 : r.1 24 0 k = 3) (ht : 0 ≤ t ∧ t ≤ B) : ∃ a1 r1, di_X_arrive k (pN (pN a 0 0 8 t) 13 0 (6 + k) 0) = some a1 ∧ di_Y_moved k (pN r 0 0 36 t) = some r1 ∧ Rel (B + 6000) 64 a1 r1 ∧ r1.1 0 0 35 = 1 := by
  have hG := H.G
  unfold rG at hG
  have kin := (H.P.1 k hk (by omega)).resolve_left (by omega)
  obtain ⟨p, hp⟩ : ∃ p : Nat, r.1 28 0 k = p := ⟨(r.1 28 0 k).toNat, by omega⟩
  have lab := kin.2.2.2.1
  have lab2 := lab
  unfold rLab at lab2
  obtain ⟨f, hf25⟩ : ∃ f : Nat, r.1 25 0 k = f := ⟨(r.1 25 0 k).toNat, by omega⟩
  have hf : (f : Int) < r.1 0 0 9 := by omega
  have hf6 : f < 6 := by omega
  have hbg : r.1 0 0 35 = 1 := by
    rcases hG.2.2.2.2.2.2.2.2.2.2.1 with q | q
    · have := (H.N.2 q).1 k hk
      omega
    · exact q
  have hst : r.1 19 0 f = -1 := Classical.byContradiction fun q => (H.N.1 f hf q).2 k hk kin.1 hf25
  have hpl : (p : Int) < 2 * r.1 0 0 0 := by omega
  obtain ⟨u, w, hu, hw, hp24, hl, p1, p2, p3, p4, -⟩ := port_d H hpl
  have F := H.F f hf
  generalize hn : r.1 26 0 k + (if r.1 27 0 k = 0 then 0 else 128) = n
  have nr : 0 ≤ n ∧ n ≤ 228 := by rw [← hn]; split <;> omega
  have H1 := note_rel (kd := 3) (sub := (w : Int)) (num := n) (now_rel H ht) (by omega)
  have H2 := unk_rel H1 hk k24
  have lab0 : rLab (pN a 0 0 8 t) (pN r 0 0 36 t) k := rLab_c (a := a) (r := r) (fun i => Or.inl rfl) (Int.le_refl _) (fun _ _ => ⟨rfl, rfl, rfl⟩) rfl rfl rfl lab
  have labX : rLab (pN (pN a 0 0 8 t) 13 0 (6 + k) 0) (pN r 0 0 36 t) k := rLab_c (a := a) (r := r) (fun i => Or.inl rfl) (Int.le_refl _) (fun _ _ => ⟨rfl, rfl, rfl⟩) rfl rfl rfl lab
  generalize ha2 : pN (rem (pN a 0 0 8 t) 3 w n) 13 0 (6 + k) 0 = a2 at H2
  generalize hr2 : nt (pN r 0 0 36 t) 3 w n = r2 at H2
  have aa : ∀ c, c = 9 ∨ c = 11 ∨ c = 4 → a2.1 c = a.1 c := fun c hc => by
    rw [← ha2]
    rcases hc with rfl | rfl | rfl <;> rfl
  have rr : ∀ c, c ≠ 0 → r2.1 c = r.1 c := fun c hc => by
    rw [← hr2]
    funext i j
    unfold nt
    rw [pN_ne (by omega)]
    show (pN r 0 0 36 t).1 c i j = _
    rw [pN_ne (by omega)]
  have r09 : r2.1 0 0 9 = r.1 0 0 9 := by rw [← hr2]; rfl
  have r035 : r2.1 0 0 35 = r.1 0 0 35 := by rw [← hr2]; rfl
  have lab3 := (H2.P.2 hk).2.2
  have h25 : r2.1 25 0 k = f := by rw [rr 25 (by omega)]; exact hf25
  have f2 : (f : Int) < r2.1 0 0 9 := by rw [r09]; exact hf
  have lab4 := lab3
  unfold rLab at lab4
  have f25 : (r2.1 25 0 k).toNat = f := by omega
  rw [f25] at lab4
  have F2 := H2.F f f2
  have r5 : 0 ≤ a2.1 11 k 5 ∧ a2.1 11 k 5 ≤ 7 := by
    have q := lab4.2.2.2.2.2.2.2.2.2.2
    split at q <;> omega
  generalize hz8 : pN (pN a2 11 k 0 0) 9 f 11 (a2.1 9 f 11 + 1) = z8
  generalize hy8 : pN (pN r2 24 0 k 0) 23 0 (4 * f + 1) (r2.1 23 0 (4 * f + 1) + 1) = y8
  have H8 := gone_rel (f := f) H2 hk (sl := 11) (tl := 1) (Or.inl ⟨rfl, rfl⟩) h25
  rw [hz8, hy8] at H8
  have z11 : ∀ j, j ≠ 0 → z8.1 11 k j = a2.1 11 k j := fun j hj => by rw [← hz8, pN_ne (by omega), pN_ne (by omega)]
  have z97 : z8.1 9 f 7 = a2.1 9 f 7 := by rw [← hz8, pN_ne (by omega), pN_ne (by omega)]
  have z91 : z8.1 9 f 1 = a2.1 9 f 1 := by rw [← hz8, pN_ne (by omega), pN_ne (by omega)]
  have y0 : ∀ c j, c ≠ 24 → c ≠ 23 → y8.1 c 0 j = r2.1 c 0 j := fun c j h1 h2 => by rw [← hy8, pN_ne (by omega), pN_ne (by omega)]
  have sX : ∀ R, (if (w : Int) = a2.1 11 k 5 then (if r2.1 27 0 k = 0 then di_X_takeData f (r2.1 26 0 k) z8 else if r2.1 26 0 k ≤ r2.1 16 0 f then some z8 else (di_X_moveBase f (r2.1 26 0 k) z8).bind fun z10 => di_X_fill (z10.1 11 k 2) z10) else di_X_put k w a2) = R → di_X_arrive k (pN (pN a 0 0 8 t) 13 0 (6 + k) 0) = R := by
    intro R hR
    have id1 : ∀ o : Option MemI, (o.bind fun z => some z) = o := fun o => by cases o <;> rfl
    have e6 : (pN (pN a 0 0 8 t) 13 0 (6 + k) 0).1 11 k 6 = p := by
      show a.1 11 k 6 = _
      omega
    refine azb rfl hk (azb (j := p) e6 hp24 (cab (xlabel labX) ?_))
    dsimp only
    have e41 : (pN (pN a 0 0 8 t) 13 0 (6 + k) 0).1 4 p 1 = w := p2
    rw [e41]
    have en : (pN r 0 0 36 t).1 26 0 k + (if (pN r 0 0 36 t).1 27 0 k = 0 then 0 else 128) = n := hn
    rw [en]
    refine cab (xrem (by show ir t; unfold ir; omega) (by unfold ir; omega) (by unfold ir; omega) (by unfold ir; omega)) ?_
    have es : (rem (pN (pN a 0 0 8 t) 13 0 (6 + k) 0) 3 w n) = pN (rem (pN a 0 0 8 t) 3 w n) 13 0 (6 + k) 0 := rfl
    rw [es, ha2]
    refine rgb (by omega) (rgb (by omega) ?_)
    by_cases c : (w : Int) = a2.1 11 k 5
    · rw [if_pos c] at hR
      have z62 : (pN a2 11 k 0 0).1 11 k 2 = f := by rw [pN_ne (by omega)]; omega
      refine itp c (bz0b (stNb (azb (j := f) z62 hf6 (stNb ?_))))
      have z6 : (pN a2 11 k 0 0).1 9 f 11 = a2.1 9 f 11 := by rw [pN_ne (by omega)]
      rw [z6, hz8, z11 1 (by omega), z11 2 (by omega), z11 3 (by omega), show a2.1 11 k 1 = r2.1 27 0 k by omega, show a2.1 11 k 2 = (f : Int) by omega, show a2.1 11 k 3 = r2.1 26 0 k by omega]
      refine rgb (by omega) ?_
      by_cases c7 : r2.1 27 0 k = 0
      · rw [if_pos c7] at hR
        refine itp c7 ?_
        rw [id1]
        exact hR
      · rw [if_neg c7] at hR
        refine itn c7 (azb rfl hf6 ?_)
        rw [z97, show a2.1 9 f 7 = r2.1 16 0 f by omega]
        refine rgb (by omega) (rgb (by omega) ?_)
        by_cases d : r2.1 26 0 k ≤ r2.1 16 0 f
        · rw [if_pos d] at hR
          exact itp d hR
        · rw [if_neg d] at hR
          refine itn d ?_
          simp only [id1]
          exact hR
    · rw [if_neg c] at hR
      refine itn c ?_
      rw [id1]
      exact hR
  have w2 : (if p % 2 = 0 then r2.1 2 0 (p / 2) else r2.1 1 0 (p / 2)) = (w : Int) := by rw [rr 2 (by omega), rr 1 (by omega)]; exact p4
  have sY : ∀ R, di_Y_arrive k r2 = R → di_Y_moved k (pN r 0 0 36 t) = R := by
    intro R hR
    refine ymoved lab0 hk R (fun n2 hn2 => ?_) (by show ir (r.1 24 0 k); unfold ir; omega)
    have en : n2 = n := hn2.trans hn
    rw [en]
    have e28 : (pN r 0 0 36 t).1 28 0 k = p := hp
    rw [e28]
    have ey : di_Y_leads (p : Int) (pN r 0 0 36 t) = some ((w : Int), pN r 0 0 36 t) := by
      rw [yleads hp24, ← p4]
      rfl
    refine itp k24 (cab ey ?_)
    dsimp only
    refine cab (ynote (by show 0 ≤ r.1 0 0 38 ∧ r.1 0 0 38 < 2147483648; omega) (by show ir t; unfold ir; omega) (by unfold ir; omega) (by unfold ir; omega) (by unfold ir; omega)) ?_
    rw [hr2]
    exact hR
  have sA := yarr (a := a2) (r := r2) (p := p) (f := f) (w := w) (y8 := y8) H2 hk (by rw [rr 28 (by omega)]; exact hp) hp24 w2 hw h25 hy8.symm rfl rfl
  have hst8 : y8.1 19 0 f = -1 := by rw [y0 19 f (by omega) (by omega), rr 19 (by omega)]; exact hst
  have h98 : (f : Int) < y8.1 0 0 9 := by rw [y0 0 9 (by omega) (by omega)]; exact f2
  have h358 : y8.1 0 0 35 = 1 := by rw [y0 0 35 (by omega) (by omega), r035]; exact hbg
  by_cases c : (w : Int) = a2.1 11 k 5
  · by_cases c7 : r2.1 27 0 k = 0
    · have v5 : (w : Int) = z8.1 9 f 1 := by
        rw [z91]
        have q := lab4.2.2.2.2.2.2.2.2.2.2
        rw [if_pos c7] at q
        omega
      obtain ⟨a3, r3, g1, g2, H3, h35⟩ := data_r (n := r2.1 26 0 k) (v := (w : Int)) H8 (by omega) h98 hst8 h358 (by omega) v5
      rw [y0 18 f (by omega) (by omega)] at g2
      exact ⟨a3, r3, sX _ (itp c (itp c7 g1)), sY _ (sA _ (itp c (itp c7 g2))), H3.mono (by omega), h35⟩
    · by_cases d : r2.1 26 0 k ≤ r2.1 16 0 f
      · exact ⟨z8, y8, sX _ (itp c (itn c7 (itp d rfl))), sY _ (sA _ (itp c (itn c7 (itp d rfl)))), H8.mono (by omega), h358⟩
      · obtain ⟨a3, r3, r4, g1, g11, g2, g3, H3, b1, b2, b3, b4, b5⟩ := base_r (f := f) (n := r2.1 26 0 k) H8 (by omega) h98 hst8 h358 (by omega) (by rw [y0 16 f (by omega) (by omega)]; omega)
        rw [y0 17 f (by omega) (by omega)] at g2
        obtain ⟨a5, r5, e1, e2, H5, h35⟩ := fill_r (f := f) H3 (by omega) (by rw [b1]; exact h98) b2 b3
        refine ⟨a5, r5, sX _ (itp c (itn c7 (itn d (cab g1 ?_)))), sY _ (sA _ (itp c (itn c7 (itn d ?_)))), H5.mono (by omega), h35⟩
        · rw [g11, z11 2 (by omega), show a2.1 11 k 2 = (f : Int) by omega]
          exact e1
        · rw [← g2]
          exact g3 _ e2
  · obtain ⟨a3, r3, g1, g2, H3, fr3⟩ := put_r (v := (w : Int)) H2 hk (by omega) (by unfold ir; omega)
    exact ⟨a3, r3, sX _ (itn c g1), sY _ (sA _ (itn c g2)), H3.mono (by omega), by rw [fr3.2 35 (by decide), r035]; exact hbg⟩
end ARRIVE
