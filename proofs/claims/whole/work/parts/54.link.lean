/-! ===== link ===== -/
section LINK
variable {B : Int} {a r a1 r1 : MemI} {x1 x2 x3 x4 x5 : Int} {l u w : Nat}
theorem link_rel (H : Rel B 64 a r) (h0 : r.1 0 0 35 = 0) (hl : r.1 0 0 0 = l) (hl12 : l < 12) (h1 : x1 = u) (h2 : x2 = w) (hu : u < 8) (hw : w < 8) (huw : u ≠ w) (h3 : 1 ≤ x3 ∧ x3 ≤ 100) (h4 : 1 ≤ x4 ∧ x4 ≤ 16) (h5 : 0 ≤ x5 ∧ x5 ≤ 40)
    (A0 : ∀ c, c ≠ 0 → c ≠ 2 → c ≠ 4 → c ≠ 7 → a1.1 c = a.1 c) (A1 : ∀ j, a1.1 0 0 j = if j = 6 then (l : Int) + 1 else a.1 0 0 j) (A2 : a1.2 = a.2) (A4 : ∀ p, p ≠ 2 * l → p ≠ 2 * l + 1 → a1.1 4 p = a.1 4 p ∧ a1.1 7 p = a.1 7 p)
    (A4a : a1.1 4 (2 * l) 0 = x1 ∧ a1.1 4 (2 * l) 1 = x2 ∧ a1.1 4 (2 * l) 2 = x3 ∧ a1.1 4 (2 * l) 3 = x4 ∧ a1.1 4 (2 * l) 4 = x5 ∧ a1.1 4 (2 * l) 5 = 8 ∧ a1.1 4 (2 * l) 6 = 4 ∧ a1.1 4 (2 * l) 7 = -1 ∧ a1.1 4 (2 * l) 8 = 0 ∧ a1.1 4 (2 * l) 9 = 0 ∧ a1.1 4 (2 * l) 10 = 0)
    (A4b : a1.1 4 (2 * l + 1) 0 = x2 ∧ a1.1 4 (2 * l + 1) 1 = x1 ∧ a1.1 4 (2 * l + 1) 2 = x3 ∧ a1.1 4 (2 * l + 1) 3 = x4 ∧ a1.1 4 (2 * l + 1) 4 = x5 ∧ a1.1 4 (2 * l + 1) 5 = 8 ∧ a1.1 4 (2 * l + 1) 6 = 4 ∧ a1.1 4 (2 * l + 1) 7 = -1 ∧ a1.1 4 (2 * l + 1) 8 = 0 ∧ a1.1 4 (2 * l + 1) 9 = 0 ∧ a1.1 4 (2 * l + 1) 10 = 0)
    (A7 : ∀ f, f < 6 → a1.1 7 (2 * l) f = 0 ∧ a1.1 7 (2 * l + 1) f = 0) (Ad : is2 a1 (sh (sh (rM r) u w x3) w u x3))
    (R0 : ∀ c, 9 ≤ c → r1.1 c = r.1 c) (R1 : ∀ j, r1.1 0 0 j = if j = 0 then (l : Int) + 1 else r.1 0 0 j) (R2 : r1.2 = r.2) (Rk : ∀ c g, 1 ≤ c → c ≤ 5 → g ≠ l → r1.1 c 0 g = r.1 c 0 g) (Rl : r1.1 1 0 l = x1 ∧ r1.1 2 0 l = x2 ∧ r1.1 3 0 l = x3 ∧ r1.1 4 0 l = x4 ∧ r1.1 5 0 l = x5)
    (R6 : ∀ p, p ≠ 2 * l → p ≠ 2 * l + 1 → r1.1 6 0 p = r.1 6 0 p ∧ r1.1 7 0 p = r.1 7 0 p) (R6n : r1.1 6 0 (2 * l) = 8 ∧ r1.1 7 0 (2 * l) = 4 ∧ r1.1 6 0 (2 * l + 1) = 8 ∧ r1.1 7 0 (2 * l + 1) = 4)
    (Rm : mCl (l + 1) (r1.1 1 0) (r1.1 2 0) (r1.1 3 0) (rM r1)) (Rg : mGr (l + 1) (r1.1 1 0) (r1.1 2 0) (r1.1 3 0) (rM r1)) (Rb : mBd 25600 (rM r1)) : Rel B 64 a1 r1 := by
  have hG := H.G
  have r0 : r1.1 0 0 0 = (l : Int) + 1 := by rw [R1, if_pos rfl]
  have ro : ∀ j, j ≠ 0 → r1.1 0 0 j = r.1 0 0 j := fun j hj => by rw [R1, if_neg hj]
  have ao : ∀ j, j ≠ 6 → a1.1 0 0 j = a.1 0 0 j := fun j hj => by rw [A1, if_neg hj]
  have a6 : a1.1 0 0 6 = (l : Int) + 1 := by rw [A1, if_pos rfl]
  have NN := H.N.2 h0
  have st0 : ∀ k, k < 64 → r.1 24 0 k = 0 := fun k hk => by
    rcases H.P.1 k hk (by omega) with y | y
    · exact y.2
    · have := NN.1 k hk
      omega
  have h24 := R0 24 (by omega)
  have h28 := R0 28 (by omega)
  have e37 := ro 37 (by decide)
  have e9 := ro 9 (by decide)
  have fresh : ∀ p, (a1.1 4 p 7 = -1 ∧ a1.1 4 p 8 = 0 ∧ a1.1 4 p 9 = 0 ∧ a1.1 4 p 10 = 0) → (∀ f, f < 6 → a1.1 7 p f = 0) → rQ a1 r1 p ∧ rL a1 r1 p ∧ rO a1 r1 p := by
    intro p hp h7
    obtain ⟨p7, p8, p9, p10⟩ := hp
    refine ⟨?_, ?_, ?_⟩
    · unfold rQ
      rw [p8, h24]
      exact ⟨by omega, by omega, fun i hi => by omega, fun i j _ hj => by omega, fun k hk hs => by rw [st0 k hk] at hs; omega⟩
    · unfold rL
      rw [p9, p10, h24]
      exact ⟨by omega, by omega, Or.inl rfl, fun _ => rfl, fun i hi => by omega, fun i j _ hj => by omega, fun k hk hs => by rw [st0 k hk] at hs; omega, fun f hf _ => h7 f hf⟩
    · unfold rO
      rw [p7, h24]
      exact Or.inl ⟨rfl, fun k hk hs => by rw [st0 k hk] at hs; omega⟩
  refine ⟨?_, fun g hg => ?_, fun p hp => ?_, ?_, rF_c (A0 9 (by decide) (by decide) (by decide) (by decide)) e9 (fun c h9 _ => R0 c h9) (R0 23 (by omega)) (Int.le_refl _) H.F,
    ⟨fun k hk e => Or.inl ⟨by rw [A0 11 (by decide) (by decide) (by decide) (by decide)]; exact NN.1 k hk, by rw [h24]; exact st0 k hk⟩, fun hh => by omega⟩, fun p hp => ?_,
    rA_c (by rw [A0 12 (by decide) (by decide) (by decide) (by decide)]) (A0 13 (by decide) (by decide) (by decide) (by decide)) (A0 14 (by decide) (by decide) (by decide) (by decide)) (A0 15 (by decide) (by decide) (by decide) (by decide)) e9 (R0 19 (by omega)) (R0 20 (by omega)) (R0 21 (by omega)) (R0 22 (by omega)) h24 (R0 29 (by omega)) (R0 30 (by omega)) (by rw [e37]; omega) (Int.le_refl _) H.A,
    rN_c (fun k => by rw [A0 11 (by decide) (by decide) (by decide) (by decide)]) e9 (ro 35 (by decide)) (R0 19 (by omega)) (R0 21 (by omega)) (R0 25 (by omega)) H.N, rT_c A2 R2 (ro 38 (by decide)) H.T⟩
  · unfold rG at *
    rw [a6, ao 7 (by decide), ao 8 (by decide), ao 9 (by decide), A0 12 (by decide) (by decide) (by decide) (by decide), r0, e9, ro 36 (by decide), ro 35 (by decide), e37, ro 38 (by decide)]
    omega
  · by_cases e : g = l
    · subst e
      obtain ⟨k1, k2, k3, k4, k5⟩ := Rl
      rw [k1, k2, k3, k4, k5, h1, h2] at *
      exact ⟨by omega, ⟨A4a.1, A4a.2.1, A4a.2.2.1, A4a.2.2.2.1, A4a.2.2.2.2.1⟩, ⟨A4b.1, A4b.2.1, A4b.2.2.1, A4b.2.2.2.1, A4b.2.2.2.2.1⟩⟩
    · have x := H.K g (by rw [r0] at hg; omega)
      rw [Rk 1 g (by omega) (by omega) e, Rk 2 g (by omega) (by omega) e, Rk 3 g (by omega) (by omega) e, Rk 4 g (by omega) (by omega) e, Rk 5 g (by omega) (by omega) e, (A4 (2 * g) (by omega) (by omega)).1, (A4 (2 * g + 1) (by omega) (by omega)).1]
      exact x
  · by_cases c1 : p = 2 * l
    · subst c1
      rw [A4a.2.2.2.2.2.1, A4a.2.2.2.2.2.2.1, R6n.1, R6n.2.1]
      omega
    · by_cases c2 : p = 2 * l + 1
      · subst c2
        rw [A4b.2.2.2.2.2.1, A4b.2.2.2.2.2.2.1, R6n.2.2.1, R6n.2.2.2]
        omega
      · have x := H.S p (by rw [r0] at hp; omega)
        rw [(A4 p c1 c2).1, (R6 p c1 c2).1, (R6 p c1 c2).2]
        exact x
  · have cl := H.D.2.1
    have gr := H.D.2.2.1
    rw [hl] at cl gr
    have kk : ∀ X : Mx, mK l (r1.1 1 0) (r1.1 2 0) (r1.1 3 0) X ↔ mK l (r.1 1 0) (r.1 2 0) (r.1 3 0) X := fun X => by
      refine ⟨fun h k hk => ?_, fun h k hk => ?_⟩
      · have := h k hk
        rw [Rk 1 k (by omega) (by omega) (by omega), Rk 2 k (by omega) (by omega) (by omega), Rk 3 k (by omega) (by omega) (by omega)] at this
        exact this
      · rw [Rk 1 k (by omega) (by omega) (by omega), Rk 2 k (by omega) (by omega) (by omega), Rk 3 k (by omega) (by omega) (by omega)]
        exact h k hk
    have f1 : (r1.1 1 0 l).toNat = u := by rw [Rl.1, h1]; rfl
    have f2 : (r1.1 2 0 l).toNat = w := by rw [Rl.2.1, h2]; rfl
    have cl1 : mCl l (r1.1 1 0) (r1.1 2 0) (r1.1 3 0) (rM r) := ⟨cl.1, cl.2.1, (kk _).mpr cl.2.2⟩
    have gr1 : mGr l (r1.1 1 0) (r1.1 2 0) (r1.1 3 0) (rM r) := fun X hX => gr X ⟨hX.1, hX.2.1, (kk X).mp hX.2.2⟩
    have C := sh2_Cl hu hw h3.1 f1 f2 Rl.2.2.1 cl1
    have E := sh2_Gr hu hw f1 f2 Rl.2.2.1 gr1
    refine ⟨fun v t hv ht => ?_, ?_, ?_, Rb⟩
    · rw [Ad v t hv ht, mx_uni C E Rm Rg hv ht]
      rfl
    · rw [r0]
      exact Rm
    · rw [r0]
      exact Rg
  · by_cases c1 : p = 2 * l
    · subst c1
      exact fresh _ ⟨A4a.2.2.2.2.2.2.2.1, A4a.2.2.2.2.2.2.2.2.1, A4a.2.2.2.2.2.2.2.2.2.1, A4a.2.2.2.2.2.2.2.2.2.2⟩ (fun f hf => (A7 f hf).1)
    · by_cases c2 : p = 2 * l + 1
      · subst c2
        exact fresh _ ⟨A4b.2.2.2.2.2.2.2.1, A4b.2.2.2.2.2.2.2.2.1, A4b.2.2.2.2.2.2.2.2.2.1, A4b.2.2.2.2.2.2.2.2.2.2⟩ (fun f hf => (A7 f hf).2)
      · have hp2 : (p : Int) < 2 * r.1 0 0 0 := by rw [r0] at hp; omega
        have q4 := A4 p c1 c2
        have x := H.L hp2
        refine ⟨rQ_c (by rw [q4.1]) (A0 5 (by decide) (by decide) (by decide) (by decide)) h24 h28 (R0 30 (by omega)) (H.Q hp2), ?_, rO_c (by rw [q4.1]) h24 h28 (H.O hp2)⟩
        unfold rL at *
        rw [q4.1, q4.2, A0 6 (by decide) (by decide) (by decide) (by decide), h24, h28, R0 25 (by omega), R0 31 (by omega), R0 32 (by omega), R0 33 (by omega), e9, e37]
        exact x
theorem lnk131 {K : MemI → Option (Int × MemI)} {z : MemI} {l : Nat} (hl : z.1 0 0 0 = l) (hl12 : l < 12) : di_Y_link_131 K FU (2 * (l : Int)) z = K (pN (pN (pN (pN z 6 0 (2 * l) 8) 7 0 (2 * l) 4) 6 0 (2 * l + 1) 8) 7 0 (2 * l + 1) 4) := by
  show di_Y_link_131 K (197 + 1 + 1 + 1) (2 * (l : Int)) z = _
  rw [di_Y_link_131]
  refine rgb (by omega) (rgb (by omega) (itn (by omega) (azb (j := 2 * l) (by omega) (by omega) (stNb (azb (j := 2 * l) (by omega) (by omega) (stNb ?_))))))
  rw [di_Y_link_131]
  have e1 : (pN (pN z 6 0 (2 * l) 8) 7 0 (2 * l) 4).1 0 0 0 = z.1 0 0 0 := rfl
  rw [e1]
  refine rgb (by omega) (rgb (by omega) (itn (by omega) (azb (j := 2 * l + 1) (by omega) (by omega) (stNb (azb (j := 2 * l + 1) (by omega) (by omega) (stNb ?_))))))
  rw [di_Y_link_131]
  have e2 : (pN (pN (pN (pN z 6 0 (2 * l) 8) 7 0 (2 * l) 4) 6 0 (2 * l + 1) 8) 7 0 (2 * l + 1) 4).1 0 0 0 = z.1 0 0 0 := rfl
  rw [e2]
  exact rgb (by omega) (rgb (by omega) (itp (by omega) rfl))
theorem g_link (H : Rel B 64 a r) (h1 : ir x1) (h2 : ir x2) (h3 : ir x3) (h4 : ir x4) (h5 : ir x5) : goes B a r (di_X_link x1 x2 x3 x4 x5) (di_Y_link x1 x2 x3 x4 x5) := by
  have hG := H.G
  unfold rG at hG
  by_cases c0 : r.1 0 0 35 = 0
  · by_cases c6 : r.1 0 0 0 = 12
    · exact ⟨-1, a, r, rgb (by omega) (itp (by omega) (rgb (by omega) (itp (by omega) rfl))), rgb (by omega) (itp c0 (rgb (by omega) (itp c6 rfl))), H⟩
    by_cases c1 : 0 ≤ x1 ∧ x1 ≤ 7
    · by_cases c2 : 0 ≤ x2 ∧ x2 ≤ 7
      · have pX : ∀ R, (if x1 = x2 then some ((-1 : Int), a) else (di_X_isWithin x3 (1 : Int) (100 : Int)).bind fun v3 => (rg v3).bind fun _ => if v3 = (0 : Int) then some ((-1 : Int), a) else (di_X_isWithin x4 (1 : Int) (16 : Int)).bind fun v4 => (rg v4).bind fun _ => if v4 = (0 : Int) then some ((-1 : Int), a) else (di_X_isWithin x5 (0 : Int) (40 : Int)).bind fun v5 => (rg v5).bind fun _ => if v5 = (0 : Int) then some ((-1 : Int), a) else
                  (aiz 24 ((2 : Int) * (a.1 0 0 6))).bind fun j6 => (di_P_lay j6 x1 x2 x3 x4 x5 a).bind fun z7 => (aiz 24 (((2 : Int) * (a.1 0 0 6)) + (1 : Int))).bind fun j8 => (di_P_lay j8 x2 x1 x3 x4 x5 z7).bind fun z9 => stN (pN z9 0 0 6 ((z9.1 0 0 6) + (1 : Int))) fun z10 => (di_X_shortenOver x1 x2 x3 z10).bind fun z11 => (di_X_shortenOver x2 x1 x3 z11).bind fun z12 => some ((a.1 0 0 6), z12)) = R → di_X_link x1 x2 x3 x4 x5 a = R := fun R hR => rgb (by omega) (itp (by omega) (rgb (by omega) (itn (by omega) (cab (xnode1 c1) (rgb (by omega) (itn (by omega) (cab (xnode1 c2) (rgb (by omega) (itn (by omega) (rgb h1 (rgb h2 hR)))))))))))
        by_cases c5 : x1 = x2
        · exact ⟨-1, a, r, pX _ (itp c5 rfl), rgb (by omega) (itp c0 (rgb (by omega) (itn c6 (cab (ynode1 c1) (rgb (by omega) (itn (by omega) (cab (ynode1 c2) (rgb (by omega) (itn (by omega) (rgb h1 (rgb h2 (itp c5 rfl)))))))))))), H⟩
        have pY : ∀ F : Unit → Option (Int × MemI), True := fun _ => trivial
        by_cases c3 : 1 ≤ x3 ∧ x3 ≤ 100
        · by_cases c4 : 1 ≤ x4 ∧ x4 ≤ 16
          · by_cases c7 : 0 ≤ x5 ∧ x5 ≤ 40
            · obtain ⟨l, hl⟩ : ∃ f : Nat, r.1 0 0 0 = f := ⟨(r.1 0 0 0).toNat, by omega⟩
              obtain ⟨u, hu⟩ : ∃ f : Nat, x1 = f := ⟨x1.toNat, by omega⟩
              obtain ⟨w, hw⟩ : ∃ f : Nat, x2 = f := ⟨x2.toNat, by omega⟩
              have hl12 : l < 12 := by omega
              obtain ⟨za, la1, la2, la3, la4, la5⟩ := lay_eq (p := 2 * l) (x1 := x1) (x2 := x2) (x3 := x3) (x4 := x4) (x5 := x5) (z := a)
              obtain ⟨zb, lb1, lb2, lb3, lb4, lb5⟩ := lay_eq (p := 2 * l + 1) (x1 := x2) (x2 := x1) (x3 := x3) (x4 := x4) (x5 := x5) (z := za)
              have hzb6 : zb.1 0 0 6 = l := by rw [lb2 0 0 6 (by omega) (by omega), la2 0 0 6 (by omega) (by omega)]; omega
              have i0 : is2 (pN zb 0 0 6 ((l : Int) + 1)) (rM r) := fun v t hv ht => by
                rw [pN_ne (by omega), lb2 2 v t (by omega) (by omega), la2 2 v t (by omega) (by omega)]
                exact H.D.1 v t hv ht
              obtain ⟨zc, s1, s2, s3⟩ := shorten (z := pN zb 0 0 6 ((l : Int) + 1)) (u := u) (w := w) (c := x3) (d := 25600) (by omega) (by omega) c3 H.D.2.1.1 H.D.2.2.2 (by omega) i0
              obtain ⟨zd, t1, t2, t3⟩ := shorten (z := zc) (u := w) (w := u) (c := x3) (d := 2 * 25600 + 100) (by omega) (by omega) c3 (sh_Z (by omega) (by omega) c3.1 H.D.2.1.1) (sh_B (by omega) (by omega) H.D.2.1.1 (by omega) c3 H.D.2.2.2) (by omega) s3
              have ez := e2_tr s2 t2
              have m0' := lnk131 (K := fun z21 => stN (pN z21 0 0 0 ((z21.1 0 0 0) + (1 : Int))) fun z22 => (di_Y_measure z22).bind fun z23 => some (((z23.1 0 0 0) - (1 : Int)), z23)) (z := pN (pN (pN (pN (pN r 1 0 l x1) 2 0 l x2) 3 0 l x3) 4 0 l x4) 5 0 l x5) hl hl12
              generalize hyq : pN (pN (pN (pN (pN (pN (pN (pN (pN (pN r 1 0 l x1) 2 0 l x2) 3 0 l x3) 4 0 l x4) 5 0 l x5) 6 0 (2 * l) 8) 7 0 (2 * l) 4) 6 0 (2 * l + 1) 8) 7 0 (2 * l + 1) 4) 0 0 0 ((l : Int) + 1) = yq
              have yf : ∀ c i k, yq.1 c i k = (pN (pN (pN (pN (pN (pN (pN (pN (pN (pN r 1 0 l x1) 2 0 l x2) 3 0 l x3) 4 0 l x4) 5 0 l x5) 6 0 (2 * l) 8) 7 0 (2 * l) 4) 6 0 (2 * l + 1) 8) 7 0 (2 * l + 1) 4) 0 0 0 ((l : Int) + 1)).1 c i k := fun c i k => by rw [hyq]
              have y1 : ∀ c g, 1 ≤ c → c ≤ 5 → g ≠ l → yq.1 c 0 g = r.1 c 0 g := fun c g hc1 hc2 hg => by
                rw [yf]
                simp only [pN_if]
                repeat rw [if_neg (by omega)]
              have y2 : yq.1 1 0 l = x1 ∧ yq.1 2 0 l = x2 ∧ yq.1 3 0 l = x3 ∧ yq.1 4 0 l = x4 ∧ yq.1 5 0 l = x5 := by
                simp only [yf, pN_if]
                simp
              have y0 : yq.1 0 0 0 = ((l + 1 : Nat) : Int) := by rw [yf, pN_at]; omega
              obtain ⟨yz, m1, m2, m3, m4, m5⟩ := ymeasure (r := yq) (N := l + 1) y0 (by omega) (fun k hk => by
                by_cases e : k = l
                · subst e
                  rw [y2.1, y2.2.1, y2.2.2.1]
                  omega
                · rw [y1 1 k (by omega) (by omega) e, y1 2 k (by omega) (by omega) e, y1 3 k (by omega) (by omega) e]
                  have x := (H.K k (by omega)).1
                  omega)
              refine ⟨l, zd, yz, pX _ ?_, ?_, ?_⟩
              · refine itn c5 (cab (xwi1 (by unfold ir; omega) (by unfold ir; omega) c3) (rgb (by omega) (itn (by omega) (cab (xwi1 (by unfold ir; omega) (by unfold ir; omega) c4) (rgb (by omega) (itn (by omega) (cab (xwi1 (by unfold ir; omega) (by unfold ir; omega) c7) (rgb (by omega) (itn (by omega) (azb (j := 2 * l) (by omega) (by omega) (cab la1 (azb (j := 2 * l + 1) (by omega) (by omega) (cab lb1 (stNb ?_))))))))))))))
                rw [hzb6, hu, hw]
                refine cab s1 (cab t1 ?_)
                rw [show a.1 0 0 6 = l by omega]
              · refine rgb (by omega) (itp c0 (rgb (by omega) (itn c6 (cab (ynode1 c1) (rgb (by omega) (itn (by omega) (cab (ynode1 c2) (rgb (by omega) (itn (by omega) (rgb h1 (rgb h2 (itn c5 (cab (ywi1 (by unfold ir; omega) (by unfold ir; omega) c3) (rgb (by omega) (itn (by omega) (cab (ywi1 (by unfold ir; omega) (by unfold ir; omega) c4) (rgb (by omega) (itn (by omega) (cab (ywi1 (by unfold ir; omega) (by unfold ir; omega) c7) (rgb (by omega) (itn (by omega) ?_)))))))))))))))))))))
                refine azb (j := l) hl hl12 (stNb (azb (j := l) hl hl12 (stNb (azb (j := l) hl hl12 (stNb (azb (j := l) hl hl12 (stNb (azb (j := l) hl hl12 (stNb (stWb ?_))))))))))
                have el : (2 : Int) * (pN (pN (pN (pN (pN r 1 0 l x1) 2 0 l x2) 3 0 l x3) 4 0 l x4) 5 0 l x5).1 0 0 0 = 2 * (l : Int) := by
                  show (2 : Int) * r.1 0 0 0 = _
                  rw [hl]
                rw [el, m0']
                refine stNb ?_
                have el2 : (pN (pN (pN (pN (pN (pN (pN (pN (pN r 1 0 l x1) 2 0 l x2) 3 0 l x3) 4 0 l x4) 5 0 l x5) 6 0 (2 * l) 8) 7 0 (2 * l) 4) 6 0 (2 * l + 1) 8) 7 0 (2 * l + 1) 4).1 0 0 0 = l := hl
                rw [el2, hyq]
                refine cab m1 ?_
                rw [m2.1 0 (by decide), y0]
                refine congrArg some (Prod.ext ?_ rfl)
                show ((l + 1 : Nat) : Int) - 1 = l
                omega
              · have rest : ∀ c, c ≠ 8 → yz.1 c = yq.1 c := m2.1
                refine link_rel H c0 hl hl12 hu hw (by omega) (by omega) (by omega) c3 c4 c7 (fun c k0 k2 k4 k7 => ?_) (fun j => ?_) ?_ (fun p q1 q2 => ?_) ?_ ?_ (fun f hf => ?_) t3 (fun c hc => ?_) (fun j => ?_) ?_ (fun c g hc1 hc2 hg => ?_) ?_ (fun p q1 q2 => ?_) ?_ ?_ ?_ m5
                · rw [ez.1 c k2]
                  funext i k
                  rw [pN_ne (fun q => k0 q.1), lb2 c i k (fun q => k4 q.1) (fun q => k7 q.1), la2 c i k (fun q => k4 q.1) (fun q => k7 q.1)]
                · rw [ez.1 0 (by decide), pN_if]
                  by_cases e : j = 6
                  · rw [if_pos ⟨rfl, rfl, e⟩, if_pos e]
                  · rw [if_neg (fun q => e q.2.2), if_neg e, lb2 0 0 j (by omega) (by omega), la2 0 0 j (by omega) (by omega)]
                · rw [ez.2]
                  show zb.2 = a.2
                  rw [lb3, la3]
                · rw [ez.1 4 (by decide), ez.1 7 (by decide)]
                  refine ⟨funext fun k => ?_, funext fun k => ?_⟩
                  · rw [pN_ne (by omega), lb2 4 p k (by omega) (by omega), la2 4 p k (by omega) (by omega)]
                  · rw [pN_ne (by omega), lb2 7 p k (by omega) (by omega), la2 7 p k (by omega) (by omega)]
                · have g : ∀ k, zd.1 4 (2 * l) k = za.1 4 (2 * l) k := fun k => by rw [ez.1 4 (by decide), pN_ne (by omega), lb2 4 (2 * l) k (by omega) (by omega)]
                  simp only [g]
                  exact la4
                · have g : ∀ k, zd.1 4 (2 * l + 1) k = zb.1 4 (2 * l + 1) k := fun k => by rw [ez.1 4 (by decide), pN_ne (by omega)]
                  simp only [g]
                  exact lb4
                · rw [ez.1 7 (by decide), pN_ne (by omega), pN_ne (by omega), lb2 7 (2 * l) f (by omega) (by omega)]
                  exact ⟨la5 f hf, lb5 f hf⟩
                · rw [rest c (by omega)]
                  funext i k
                  rw [yf]
                  simp only [pN_if]
                  repeat rw [if_neg (by omega)]
                · rw [rest 0 (by decide), yf, pN_if]
                  by_cases e : j = 0
                  · rw [if_pos ⟨rfl, rfl, e⟩, if_pos e]
                  · rw [if_neg (fun q => e q.2.2), if_neg e]
                    rfl
                · rw [m2.2, ← hyq]
                  rfl
                · rw [rest c (by omega)]
                  exact y1 c g hc1 hc2 hg
                · rw [rest 1 (by decide), rest 2 (by decide), rest 3 (by decide), rest 4 (by decide), rest 5 (by decide)]
                  exact y2
                · rw [rest 6 (by decide), rest 7 (by decide), yf, yf]
                  simp only [pN_if]
                  simp [q1, q2]
                · rw [rest 6 (by decide), rest 7 (by decide)]
                  simp only [yf, pN_if]
                  simp
                · rw [rest 1 (by decide), rest 2 (by decide), rest 3 (by decide)]
                  exact m3
                · rw [rest 1 (by decide), rest 2 (by decide), rest 3 (by decide)]
                  exact m4
            · exact ⟨-1, a, r, pX _ (itn c5 (cab (xwi1 (by unfold ir; omega) (by unfold ir; omega) c3) (rgb (by omega) (itn (by omega) (cab (xwi1 (by unfold ir; omega) (by unfold ir; omega) c4) (rgb (by omega) (itn (by omega) (cab (xwi0 h5 (by unfold ir; omega) (by unfold ir; omega) c7) (rgb (by omega) (itp rfl rfl)))))))))), rgb (by omega) (itp c0 (rgb (by omega) (itn c6 (cab (ynode1 c1) (rgb (by omega) (itn (by omega) (cab (ynode1 c2) (rgb (by omega) (itn (by omega) (rgb h1 (rgb h2 (itn c5 (cab (ywi1 (by unfold ir; omega) (by unfold ir; omega) c3) (rgb (by omega) (itn (by omega) (cab (ywi1 (by unfold ir; omega) (by unfold ir; omega) c4) (rgb (by omega) (itn (by omega) (cab (ywi0 h5 (by unfold ir; omega) (by unfold ir; omega) c7) (rgb (by omega) (itp rfl rfl))))))))))))))))))))), H⟩
          · exact ⟨-1, a, r, pX _ (itn c5 (cab (xwi1 (by unfold ir; omega) (by unfold ir; omega) c3) (rgb (by omega) (itn (by omega) (cab (xwi0 h4 (by unfold ir; omega) (by unfold ir; omega) c4) (rgb (by omega) (itp rfl rfl))))))), rgb (by omega) (itp c0 (rgb (by omega) (itn c6 (cab (ynode1 c1) (rgb (by omega) (itn (by omega) (cab (ynode1 c2) (rgb (by omega) (itn (by omega) (rgb h1 (rgb h2 (itn c5 (cab (ywi1 (by unfold ir; omega) (by unfold ir; omega) c3) (rgb (by omega) (itn (by omega) (cab (ywi0 h4 (by unfold ir; omega) (by unfold ir; omega) c4) (rgb (by omega) (itp rfl rfl)))))))))))))))))), H⟩
        · exact ⟨-1, a, r, pX _ (itn c5 (cab (xwi0 h3 (by unfold ir; omega) (by unfold ir; omega) c3) (rgb (by omega) (itp rfl rfl)))), rgb (by omega) (itp c0 (rgb (by omega) (itn c6 (cab (ynode1 c1) (rgb (by omega) (itn (by omega) (cab (ynode1 c2) (rgb (by omega) (itn (by omega) (rgb h1 (rgb h2 (itn c5 (cab (ywi0 h3 (by unfold ir; omega) (by unfold ir; omega) c3) (rgb (by omega) (itp rfl rfl))))))))))))))), H⟩
      · exact ⟨-1, a, r, rgb (by omega) (itp (by omega) (rgb (by omega) (itn (by omega) (cab (xnode1 c1) (rgb (by omega) (itn (by omega) (cab (xnode0 h2 c2) (rgb (by omega) (itp rfl rfl))))))))), rgb (by omega) (itp c0 (rgb (by omega) (itn c6 (cab (ynode1 c1) (rgb (by omega) (itn (by omega) (cab (ynode0 h2 c2) (rgb (by omega) (itp rfl rfl))))))))), H⟩
    · exact ⟨-1, a, r, rgb (by omega) (itp (by omega) (rgb (by omega) (itn (by omega) (cab (xnode0 h1 c1) (rgb (by omega) (itp rfl rfl)))))), rgb (by omega) (itp c0 (rgb (by omega) (itn c6 (cab (ynode0 h1 c1) (rgb (by omega) (itp rfl rfl)))))), H⟩
  · exact ⟨-1, a, r, rgb (by omega) (itn (by omega) rfl), rgb (by omega) (itn c0 rfl), H⟩
end LINK
