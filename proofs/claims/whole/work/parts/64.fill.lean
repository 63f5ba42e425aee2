/-! ===== fill, begin, START, TIMEOUT ===== -/
section FILL
variable {B : Int} {a r : MemI} {f k p : Nat} {t : Int}
/-- what filling leaves alone -/
def frG (r r1 : MemI) : Prop := (∀ c, 1 ≤ c → c ≤ 20 → c ≠ 17 → r1.1 c = r.1 c) ∧ ∀ j, j ≠ 37 → r1.1 0 0 j = r.1 0 0 j
theorem frG.rf (r : MemI) : frG r r := ⟨fun _ _ _ _ => rfl, fun _ _ => rfl⟩
theorem frG.tr {x y z : MemI} (h1 : frG x y) (h2 : frG y z) : frG x z := ⟨fun c q1 q2 q3 => (h2.1 c q1 q2 q3).trans (h1.1 c q1 q2 q3), fun j hj => (h2.2 j hj).trans (h1.2 j hj)⟩
theorem frY.G {x y : MemI} (h : frY x y) : frG x y := ⟨fun c q1 q2 _ => h.1 c q1 (by omega), h.2⟩
theorem frG_pN {r : MemI} {c i k : Nat} {v : Int} (h : 21 ≤ c ∨ c = 17 ∨ (c = 0 ∧ k = 37)) : frG r (pN r c i k v) := by
  refine ⟨fun c2 h1 h2 h3 => ?_, fun j hj => ?_⟩
  · funext i2 k2
    rw [pN_ne (by omega)]
  · rw [pN_ne (by omega)]
theorem xtimer {z : MemI} (hf : f < 6) : di_X_setTimer f z = some (agS z f 4 (z.1 0 0 8 + z.1 9 f 5)) := azb rfl hf (cab (xset rfl (by omega)) rfl)
theorem ytimer {z : MemI} (hf : f < 6) : di_Y_setTimeout f z = some (pN (pN (pN z 21 0 f (z.1 0 0 36 + z.1 14 0 f)) 0 0 37 (z.1 0 0 37 + 1)) 22 0 f (z.1 0 0 37 + 1)) := azb rfl hf (azb rfl hf (stNb (stNb (azb rfl hf (stNb rfl)))))
theorem timer_rel (H : Rel B 64 a r) (hf : (f : Int) < r.1 0 0 9) (hst : r.1 19 0 f = -1) (hbg : r.1 0 0 35 = 1) : Rel (B + 201) 64 (agS a f 4 (a.1 0 0 8 + a.1 9 f 5)) (pN (pN (pN r 21 0 f (r.1 0 0 36 + r.1 14 0 f)) 0 0 37 (r.1 0 0 37 + 1)) 22 0 f (r.1 0 0 37 + 1)) := by
  have hG := H.G
  unfold rG at hG
  have F := (H.F f hf).2.1
  have e : a.1 0 0 8 + a.1 9 f 5 = r.1 0 0 36 + r.1 14 0 f := by omega
  rw [e]
  exact setf_rel H (by omega) hf hbg (by omega) (Or.inr ⟨rfl, rfl, rfl, hst⟩)
theorem fill_l (hf6 : f < 6) : ∀ (m : Nat) {B : Int} {a r : MemI} {x lim : Int} (n : Nat) {KX KY : MemI → Option MemI}, Rel B 64 a r → B + 500 * m < 500000000 → (f : Int) < r.1 0 0 9 → r.1 19 0 f = -1 → r.1 0 0 35 = 1 → r.1 17 0 f = x → lim = (if r.1 16 0 f + r.1 13 0 f ≤ r.1 11 0 f then r.1 16 0 f + r.1 13 0 f else r.1 11 0 f) → lim - x ≤ m → m < n →
    ∃ a1 r1, di_X_fill_30 KX n f f lim x a = KX a1 ∧ di_Y_fill_0 KY n f r = KY r1 ∧ Rel (B + 500 * m) 64 a1 r1 ∧ frG r r1 := by
  intro m
  induction m with
  | zero =>
    intro B a r x lim n KX KY H hB hf hst hbg hx hlim hm hn
    obtain ⟨n, rfl⟩ : ∃ q, n = q + 1 := ⟨n - 1, by omega⟩
    have F := H.F f hf
    refine ⟨a, r, ?_, ?_, H.mono (by omega), frG.rf r⟩
    · rw [di_X_fill_30]
      exact rgb (by split at hlim <;> omega) (rgb (by omega) (itp (by omega) rfl))
    · rw [di_Y_fill_0]
      refine azb rfl hf6 (azb rfl hf6 (azb rfl hf6 (rgb (by omega) (rgb (by omega) ?_))))
      by_cases c : r.1 16 0 f + r.1 13 0 f ≤ r.1 17 0 f
      · exact itp c rfl
      · refine itn c (azb rfl hf6 (azb rfl hf6 (rgb (by omega) (rgb (by omega) (itp ?_ rfl)))))
        split at hlim <;> omega
  | succ m ih =>
    intro B a r x lim n KX KY H hB hf hst hbg hx hlim hm hn
    obtain ⟨n, rfl⟩ : ∃ q, n = q + 1 := ⟨n - 1, by omega⟩
    have F := H.F f hf
    have hG := H.G
    unfold rG at hG
    by_cases done : lim ≤ x
    · refine ⟨a, r, ?_, ?_, H.mono (by omega), frG.rf r⟩
      · rw [di_X_fill_30]
        exact rgb (by split at hlim <;> omega) (rgb (by omega) (itp done rfl))
      · rw [di_Y_fill_0]
        refine azb rfl hf6 (azb rfl hf6 (azb rfl hf6 (rgb (by omega) (rgb (by omega) ?_))))
        by_cases c : r.1 16 0 f + r.1 13 0 f ≤ r.1 17 0 f
        · exact itp c rfl
        · refine itn c (azb rfl hf6 (azb rfl hf6 (rgb (by omega) (rgb (by omega) (itp ?_ rfl)))))
          split at hlim <;> omega
    · have l1 : ¬ r.1 16 0 f + r.1 13 0 f ≤ r.1 17 0 f := by split at hlim <;> omega
      have l2 : ¬ r.1 11 0 f ≤ r.1 17 0 f := by split at hlim <;> omega
      have preX : ∀ R, ((di_X_hasTimer f a).bind fun r3 => (rg r3.1).bind fun _ => if r3.1 = (0 : Int) then (di_X_setTimer f r3.2).bind fun z7 => (di_X_make f x (0 : Int) z7).bind fun r8 => (di_X_put r8.1 (r8.2.1 9 f 0) r8.2).bind fun z9 => stN (pN z9 9 f 8 (x + (1 : Int))) fun z10 => di_X_fill_30 KX n f f lim (x + (1 : Int)) z10 else (di_X_make f x (0 : Int) r3.2).bind fun r4 => (di_X_put r4.1 (r4.2.1 9 f 0) r4.2).bind fun z5 => stN (pN z5 9 f 8 (x + (1 : Int))) fun z6 => di_X_fill_30 KX n f f lim (x + (1 : Int)) z6) = R → di_X_fill_30 KX (n + 1) f f lim x a = R := by
        intro R hR
        rw [di_X_fill_30]
        exact rgb (by split at hlim <;> omega) (rgb (by omega) (itn done hR))
      have preY : ∀ R, (if (r.1 21 0 f) = (-1 : Int) then (di_Y_setTimeout f r).bind fun z12 => (aiz 6 (f : Int)).bind fun j13 => (aiz 6 (f : Int)).bind fun j14 => (di_Y_make f (z12.1 17 0 j13) (0 : Int) (z12.1 9 0 j14) z12).bind fun z15 => (aiz 6 (f : Int)).bind fun j16 => stN (pN z15 17 0 j16 ((z12.1 17 0 j13) + (1 : Int))) fun z17 => di_Y_fill_0 KY n f z17 else (aiz 6 (f : Int)).bind fun j7 => (aiz 6 (f : Int)).bind fun j8 => (di_Y_make f (r.1 17 0 j7) (0 : Int) (r.1 9 0 j8) r).bind fun z9 => (aiz 6 (f : Int)).bind fun j10 => stN (pN z9 17 0 j10 ((r.1 17 0 j7) + (1 : Int))) fun z11 => di_Y_fill_0 KY n f z11) = R → di_Y_fill_0 KY (n + 1) f r = R := by
        intro R hR
        rw [di_Y_fill_0]
        refine azb rfl hf6 (azb rfl hf6 (azb rfl hf6 (rgb (by omega) (rgb (by omega) (itn l1 (azb rfl hf6 (azb rfl hf6 (rgb (by omega) (rgb (by omega) (itn l2 (azb rfl hf6 (rgb ?_ hR))))))))))))
        by_cases c : r.1 21 0 f = -1
        · omega
        · have q := H.A.2.1 f (by omega) (by rw [rk_f (by omega) hf, if_pos hst, if_neg c]; omega)
          rw [rt_f (by omega), if_pos hst] at q
          omega
      -- the rest of a turn, from a state whose timer is set
      have go : ∀ {B2 : Int} {a2 r2 : MemI}, Rel B2 64 a2 r2 → B2 ≤ B + 201 → frG r r2 → r2.1 17 0 f = x → ∃ a3 r3, ((di_X_make f x (0 : Int) a2).bind fun r8 => (di_X_put r8.1 (r8.2.1 9 f 0) r8.2).bind fun z9 => stN (pN z9 9 f 8 (x + (1 : Int))) fun z10 => di_X_fill_30 KX n f f lim (x + (1 : Int)) z10) = KX a3 ∧ ((di_Y_make f x (0 : Int) (r2.1 9 0 f) r2).bind fun z15 => (aiz 6 (f : Int)).bind fun j16 => stN (pN z15 17 0 j16 (x + (1 : Int))) fun z17 => di_Y_fill_0 KY n f z17) = KY r3 ∧ Rel (B + 500 * (m + 1 : Nat)) 64 a3 r3 ∧ frG r r3 := by
        intro B2 a2 r2 H2 hB2 fr2 hx2
        have hf2 : (f : Int) < r2.1 0 0 9 := by rw [fr2.2 9 (by decide)]; exact hf
        have F2 := (H2.F f hf2).1
        have k16 := fr2.1 16 (by omega) (by omega) (by omega)
        have k13 := fr2.1 13 (by omega) (by omega) (by omega)
        have k11 := fr2.1 11 (by omega) (by omega) (by omega)
        obtain ⟨kk, b1, b2, q2, m1, m2, m3, H3, fr3, s0, s1⟩ := mkput (v := a2.1 9 f 0) (n := x) (ans := 0) H2 (by omega) hf2 (by rw [fr2.1 19 (by omega) (by omega) (by omega)]; exact hst) (by rw [fr2.2 35 (by decide)]; exact hbg) (Or.inl rfl) ⟨by omega, by omega, fun _ => by omega⟩ (by unfold ir; omega)
        have k16b : q2.1 16 0 f = r.1 16 0 f := by rw [fr3.1 16 (by omega) (by omega), k16]
        have H4 := num_rel (f := f) (i := 1) (n := x + 1) H3 (by omega) (by omega) ⟨fun q => by omega, fun _ => by omega⟩
        have fr4 : frG r (pN q2 17 0 f (x + 1)) := fr2.tr (fr3.G.tr (frG_pN (by omega)))
        obtain ⟨a5, r5, g1, g2, H5, fr5⟩ := ih (B := B2 + 270) (x := x + 1) (lim := lim) n (KX := KX) (KY := KY) H4 (by omega) (by rw [fr4.2 9 (by decide)]; exact hf) (by rw [fr4.1 19 (by omega) (by omega) (by omega)]; exact hst) (by rw [fr4.2 35 (by decide)]; exact hbg) (pN_at _ _ _ _ _) (by rw [fr4.1 16 (by omega) (by omega) (by omega), fr4.1 13 (by omega) (by omega) (by omega), fr4.1 11 (by omega) (by omega) (by omega)]; exact hlim) (by omega) (by omega)
        refine ⟨a5, r5, cab m1 ?_, ?_, H5.mono (by omega), fr4.tr fr5⟩
        · dsimp only
          rw [s0]
          exact cab m2 (stNb g1)
        · rw [show r2.1 9 0 f = a2.1 9 f 0 by omega]
          exact cab m3 (azb rfl hf6 (stNb g2))
      have ht := xhasTimer H hf
      by_cases c : r.1 21 0 f = -1
      · rw [if_neg (fun q => q.2 c)] at ht
        have HT := timer_rel H hf hst hbg
        obtain ⟨a3, r3, g1, g2, H3, fr3⟩ := go HT (Int.le_refl _) ((frG_pN (by omega)).tr ((frG_pN (by omega)).tr (frG_pN (by omega)))) hx
        refine ⟨a3, r3, preX _ (cab ht ?_), preY _ (itp c (cab (ytimer hf6) (azb rfl hf6 (azb rfl hf6 ?_)))), H3, fr3⟩
        · dsimp only
          exact rgb (by omega) (itp rfl (cab (xtimer hf6) g1))
        · have e17 : (pN (pN (pN r 21 0 f (r.1 0 0 36 + r.1 14 0 f)) 0 0 37 (r.1 0 0 37 + 1)) 22 0 f (r.1 0 0 37 + 1)).1 17 0 f = x := hx
          rw [e17]
          exact g2
      · rw [if_pos ⟨hst, c⟩] at ht
        obtain ⟨a3, r3, g1, g2, H3, fr3⟩ := go H (by omega) (frG.rf r) hx
        refine ⟨a3, r3, preX _ (cab ht ?_), preY _ (itn c (azb rfl hf6 (azb rfl hf6 ?_))), H3, fr3⟩
        · dsimp only
          exact rgb (by omega) (itn (by omega) g1)
        · rw [hx]
          exact g2
theorem fill_r (H : Rel B 64 a r) (hB : B < 400000000) (hf : (f : Int) < r.1 0 0 9) (hst : r.1 19 0 f = -1) (hbg : r.1 0 0 35 = 1) : ∃ a1 r1, di_X_fill f a = some a1 ∧ di_Y_fill f r = some r1 ∧ Rel (B + 4000) 64 a1 r1 ∧ r1.1 0 0 35 = 1 := by
  have hG := H.G
  unfold rG at hG
  have F := H.F f hf
  obtain ⟨a1, r1, g1, g2, H1, fr1⟩ := fill_l (f := f) (by omega) 8 (x := r.1 17 0 f) (lim := if r.1 16 0 f + r.1 13 0 f ≤ r.1 11 0 f then r.1 16 0 f + r.1 13 0 f else r.1 11 0 f) FU (KX := fun z11 => some z11) (KY := fun z18 => some z18) H (by omega) hf hst hbg rfl rfl (by split <;> omega) (by decide)
  refine ⟨a1, r1, ?_, g2, H1.mono (by omega), by rw [fr1.2 35 (by decide)]; exact hbg⟩
  refine azb rfl (by omega) (cab (mmin (by unfold ir; omega) (by unfold ir; omega)) ?_)
  rw [show a.1 9 f 7 + a.1 9 f 4 = r.1 16 0 f + r.1 13 0 f by omega, show a.1 9 f 2 = r.1 11 0 f by omega, show a.1 9 f 8 = r.1 17 0 f by omega]
  exact g1
/-! ===== begin ===== -/
theorem begin_l : ∀ (m j n : Nat) {B : Int} {a r : MemI} {KX KY : MemI → Option MemI}, Rel B 64 a r → B + 1001 * m < 500000000 → (j : Int) + m = r.1 0 0 9 → m < n → r.1 0 0 35 = 1 → (∀ i, i < 64 → a.1 11 i 0 = 0) → (∀ g : Nat, j ≤ g → (g : Int) < r.1 0 0 9 → r.1 21 0 g = -1) → ∃ a1 r1, di_X_begin_15 KX n j a = KX a1 ∧ di_Y_begin_15 KY n j r = KY r1 ∧ Rel (B + 1001 * m) 64 a1 r1 ∧ r1.1 0 0 35 = 1 := by
  intro m
  induction m with
  | zero =>
    intro j n B a r KX KY H hB hj hn hbg hno hto
    obtain ⟨n, rfl⟩ : ∃ q, n = q + 1 := ⟨n - 1, by omega⟩
    have hG := H.G
    unfold rG at hG
    refine ⟨a, r, ?_, ?_, H.mono (by omega), hbg⟩
    · rw [di_X_begin_15]
      exact rgb (by omega) (rgb (by omega) (itp (by omega) rfl))
    · rw [di_Y_begin_15]
      exact rgb (by omega) (rgb (by omega) (itp (by omega) rfl))
  | succ m ih =>
    intro j n B a r KX KY H hB hj hn hbg hno hto
    obtain ⟨n, rfl⟩ : ∃ q, n = q + 1 := ⟨n - 1, by omega⟩
    have hG := H.G
    unfold rG at hG
    have F := (H.F j (by omega)).2.1
    have H1 := setf_rel (t := r.1 15 0 j) (f := j) (B1 := B + 1001) H (by omega) (by omega) hbg (by omega) (Or.inl ⟨rfl, rfl, rfl, hto j (Nat.le_refl _) (by omega), hno⟩)
    obtain ⟨a1, r1, g1, g2, H2, h35⟩ := ih (j + 1) n (KX := KX) (KY := KY) H1 (by omega) (by show ((j + 1 : Nat) : Int) + m = r.1 0 0 9; omega) (by omega) hbg (fun i hi => by rw [agS_o (by decide) (by decide) (by decide) (by decide)]; exact hno i hi) (fun g hg hg2 => hto g (by omega) hg2)
    refine ⟨a1, r1, ?_, ?_, H2.mono (by omega), h35⟩
    · rw [di_X_begin_15]
      refine rgb (by omega) (rgb (by omega) (itn (by omega) (azb rfl (by omega) (cab (xset rfl (by omega)) ?_))))
      rw [show a.1 9 j 6 = r.1 15 0 j by omega]
      exact g1
    · rw [di_Y_begin_15]
      exact rgb (by omega) (rgb (by omega) (itn (by omega) (azb rfl (by omega) (azb rfl (by omega) (stNb (stNb (azb rfl (by omega) (stNb g2))))))))
theorem begin_r (H : Rel B 64 a r) (hB : B < 400000000) : ∃ a1 r1, di_X_begin a = some a1 ∧ di_Y_begin r = some r1 ∧ Rel (B + 7000) 64 a1 r1 ∧ r1.1 0 0 35 = 1 := by
  have hG := H.G
  have hG2 := hG
  unfold rG at hG2
  by_cases c : r.1 0 0 35 = 0
  · have NN := H.N.2 c
    have H1 : Rel B 64 (pN a 0 0 9 1) (pN r 0 0 35 1) := by
      refine ⟨?_, rK_c (a := a) (r := r) (fun _ _ _ => rfl) rfl rfl rfl rfl rfl rfl H.K, rS_c (a := a) (r := r) (fun _ => ⟨rfl, rfl⟩) rfl rfl rfl H.S, rD_c (a := a) (r := r) rfl rfl rfl rfl rfl rfl H.D, rF_c (a := a) (r := r) rfl rfl (fun c h1 h2 => ?_) rfl (Int.le_refl _) H.F, rP_c (a := a) (r := r) rfl (Int.le_refl _) (Int.le_refl _) (fun _ _ => ⟨rfl, rfl, rfl⟩) rfl rfl rfl rfl rfl rfl (Int.le_refl _) H.P, fun q hq => ⟨rQ_c (a := a) (r := r) rfl rfl rfl rfl rfl (H.Q hq), rL_c (a := a) (r := r) rfl rfl rfl rfl (Int.le_refl _) rfl rfl rfl rfl rfl rfl (Int.le_refl _) (H.L hq), rO_c (a := a) (r := r) rfl rfl rfl (H.O hq)⟩, rA_c (a := a) (r := r) rfl rfl rfl rfl rfl rfl rfl rfl rfl rfl rfl rfl (Int.le_refl _) (Int.le_refl _) H.A, ⟨fun g hg hs => H.N.1 g hg hs, fun q => absurd (show (1 : Int) = 0 from q) (by decide)⟩, rT_c (a := a) (r := r) rfl rfl rfl H.T⟩
      · show _ ∧ _
        unfold rG at hG
        refine ⟨hG.1, hG.2.1, hG.2.2.1, hG.2.2.2.1, hG.2.2.2.2.1, hG.2.2.2.2.2.1, hG.2.2.2.2.2.2.1, hG.2.2.2.2.2.2.2.1, hG.2.2.2.2.2.2.2.2.1, rfl, Or.inr rfl, hG.2.2.2.2.2.2.2.2.2.2.2⟩
      · funext i j
        rw [pN_ne (by omega)]
    obtain ⟨a1, r1, g1, g2, H2, h35⟩ := begin_l (r.1 0 0 9).toNat 0 FU (KX := fun z5 => some z5) (KY := fun z9 => some z9) H1 (by omega) (by show ((0 : Nat) : Int) + ((r.1 0 0 9).toNat : Nat) = r.1 0 0 9; omega) (by have : FU = 200 := rfl; omega) rfl NN.1 (fun g _ hg => (NN.2 g hg).2)
    exact ⟨a1, r1, rgb (by omega) (itp (by omega) (bz1b (stNb g1))), rgb (by omega) (itp c (bz1b (stNb g2))), H2.mono (by omega), h35⟩
  · exact ⟨a, r, rgb (by omega) (itn (by omega) rfl), rgb (by omega) (itn c rfl), H.mono (by omega), by omega⟩
end FILL
