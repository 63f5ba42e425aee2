/-! ===== one event; step; run ===== -/
section STEP
variable {B : Int} {a r : MemI}
theorem ybegun (h : r.1 0 0 35 = 1) : di_Y_begin r = some r := rgb (by omega) (itn (by omega) rfl)
theorem happen_r (H : Rel B 64 a r) (hB : B < 300000000) (hbg : r.1 0 0 35 = 1) : ∃ v a1 r1, di_X_happen a = some (v, a1) ∧ di_Y_step r = some (v, r1) ∧ Rel (B + 6000) 64 a1 r1 ∧ r1.1 0 0 35 = 1 ∧ (v = 0 ∨ v = 1) := by
  have hG := H.G
  unfold rG at hG
  rcases xfirst H (by omega) with ⟨s, q1, gx⟩ | ⟨q1, gx⟩
  · rcases ysoon H (by omega) with ⟨s2, q2, gy⟩ | ⟨q2, -⟩
    · have es := isFirst_uni q1 q2
      subst es
      have hs70 := q1.1
      have A := H.A.2.1 s hs70 q1.2.1
      have k13 := H.A.1 s hs70
      obtain ⟨t, ht⟩ : ∃ t, rt r s = t := ⟨_, rfl⟩
      obtain ⟨u, hu⟩ : ∃ u, ru r s = u := ⟨_, rfl⟩
      rw [ht, hu] at gy
      rw [ht, hu] at A
      have N := now_rel (t := t) H (by omega)
      have e1 : ∀ s, rk (pN r 0 0 36 t) 64 s = rk r 64 s := fun _ => rfl
      have e2 : ∀ s, rt (pN r 0 0 36 t) s = rt r s := fun _ => rfl
      have e3 : ∀ s, ru (pN r 0 0 36 t) s = ru r s := fun _ => rfl
      have q3 : isFirst (pN r 0 0 36 t) 64 s := by
        unfold isFirst
        simp only [e1, e2, e3]
        exact q1
      have sX : ∀ R, (if rk r 64 s = 1 then (di_X_start s (pN (pN a 0 0 8 t) 13 0 s 0)).bind fun z6 => (biz (1 : Int)).bind fun _ => some ((1 : Int), z6) else if rk r 64 s = 2 then (di_X_leave ((s : Int) - 6) (pN (pN a 0 0 8 t) 13 0 s 0)).bind fun z6 => (biz (1 : Int)).bind fun _ => some ((1 : Int), z6) else if rk r 64 s = 3 then (di_X_arrive ((s : Int) - 6) (pN (pN a 0 0 8 t) 13 0 s 0)).bind fun z6 => (biz (1 : Int)).bind fun _ => some ((1 : Int), z6) else (di_X_timeOut s (pN (pN a 0 0 8 t) 13 0 s 0)).bind fun z6 => (biz (1 : Int)).bind fun _ => some ((1 : Int), z6)) = R → di_X_happen a = R := by
        intro R hR
        refine cab gx ?_
        dsimp only
        refine rgb (by omega) (itn (by omega) (azb rfl hs70 (stNb ?_)))
        rw [A.1]
        refine azb rfl hs70 (cab (show di_A_unset s (pN a 0 0 8 t) = some (pN (pN a 0 0 8 t) 13 0 s 0) from azb rfl hs70 rfl) ?_)
        have e13 : (pN a 0 0 8 t).1 13 0 s = rk r 64 s := k13
        rw [e13]
        refine rgb ?_ hR
        unfold rk
        repeat' split
        all_goals omega
      have sY : ∀ R, di_Y_step_37 (fun x4 z11 => (aiz 6 x4).bind fun j12 => stN (pN z11 19 0 j12 (-1 : Int)) fun z13 => (aiz 6 x4).bind fun j14 => (di_Y_note (1 : Int) x4 (z13.1 17 0 j14) z13).bind fun z15 => (di_Y_fill x4 z15).bind fun z16 => (biz (1 : Int)).bind fun _ => some ((1 : Int), z16))
          (fun x4 z18 => (aiz 6 x4).bind fun j19 => stN (pN z18 21 0 j19 (-1 : Int)) fun z20 => (aiz 24 (((4 : Int) * x4) + (3 : Int))).bind fun j21 => (aiz 24 (((4 : Int) * x4) + (3 : Int))).bind fun j22 => stN (pN z20 23 0 j22 ((z20.1 23 0 j21) + (1 : Int))) fun z23 => (aiz 6 x4).bind fun j24 => (di_Y_note (4 : Int) x4 (z23.1 16 0 j24) z23).bind fun z25 => (aiz 6 x4).bind fun j26 => (aiz 6 x4).bind fun j27 => stN (pN z25 17 0 j27 (z25.1 16 0 j26)) fun z28 => (di_Y_fill x4 z28).bind fun z29 => (biz (1 : Int)).bind fun _ => some ((1 : Int), z29))
          (fun x3 z31 => di_Y_step_188 (fun x4 z34 => (di_Y_moved x4 z34).bind fun z35 => (biz (1 : Int)).bind fun _ => some ((1 : Int), z35)) (fun z37 => (biz (1 : Int)).bind fun _ => some ((1 : Int), z37)) FU x3 (0 : Int) z31) FU (ru (pN r 0 0 36 t) s) ((0 : Nat) : Int) (pN r 0 0 36 t) = R → di_Y_step r = R := by
        intro R hR
        refine cab (ybegun hbg) (cab gy ?_)
        dsimp only
        have c1 : cmpZ (t * 4294967296 + u) 0 = 1 := by
          unfold cmpZ
          rw [if_pos (by omega)]
        rw [c1]
        refine rlb (by omega) (rgb (by omega) (itn (by omega) (nlb (by omega) (stWb (stNb ?_)))))
        rw [show (t * 4294967296 + u) % 4294967296 = u by omega, show (t * 4294967296 + u) / 4294967296 = t by omega]
        rw [e3, hu] at hR
        exact hR
      have tB : 0 ≤ t ∧ t ≤ B := by omega
      by_cases c6 : s < 6
      · have hf : (s : Int) < r.1 0 0 9 := Classical.byContradiction fun q => q1.2.1 (rk_f0 c6 q)
        have F := H.F s hf
        have y37 := fun K1 K2 K3 => yf37 (K1 := K1) (K2 := K2) (K3 := K3) N (by omega) q3 (r.1 0 0 9).toNat 0 FU (by show ((0 : Nat) : Int) + ((r.1 0 0 9).toNat : Nat) = r.1 0 0 9; omega) (by have : FU = 200 := rfl; omega) (by omega)
        have i38 : 0 ≤ r.1 0 0 38 ∧ r.1 0 0 38 < 2147483648 := by omega
        rcases ev_f H hf with x | x | x
        · exact absurd x.2.2 q1.2.1
        · obtain ⟨a1, r1, g1, g2, H1, h35⟩ := timeout_r (f := s) (t := t) H hB hf x.1 hbg tB
          refine ⟨1, a1, r1, sX _ (itn (by omega) (itn (by omega) (itn (by omega) (cab g1 (bz1b rfl))))), sY _ ((y37 _ _ _).trans (itp c6 (itp x.1 ?_))), H1, h35, Or.inr rfl⟩
          refine azb rfl c6 (stNb (azb (j := 4 * s + 3) (by omega) (by omega) (azb (j := 4 * s + 3) (by omega) (by omega) (stNb (azb rfl c6 ?_)))))
          have n1 : (pN (pN (pN r 0 0 36 t) 21 0 s (-1)) 23 0 (4 * s + 3) ((pN (pN r 0 0 36 t) 21 0 s (-1)).1 23 0 (4 * s + 3) + 1)).1 16 0 s = r.1 16 0 s := rfl
          have n2 : (pN (pN r 0 0 36 t) 21 0 s (-1)).1 23 0 (4 * s + 3) = r.1 23 0 (4 * s + 3) := rfl
          rw [n1, n2]
          have yn := ynote (kd := 4) (sub := (s : Int)) (num := r.1 16 0 s) (z := pN (pN (pN r 0 0 36 t) 21 0 s (-1)) 23 0 (4 * s + 3) (r.1 23 0 (4 * s + 3) + 1)) i38 (by show ir t; unfold ir; omega) (by unfold ir; omega) (by unfold ir; omega) (by unfold ir; omega)
          rw [yn] at g2
          refine cab yn (azb rfl c6 (azb rfl c6 (stNb ?_)))
          have n3 : (nt (pN (pN (pN r 0 0 36 t) 21 0 s (-1)) 23 0 (4 * s + 3) (r.1 23 0 (4 * s + 3) + 1)) 4 s (r.1 16 0 s)).1 16 0 s = r.1 16 0 s := rfl
          rw [n3]
          exact cab g2 (bz1b rfl)
        · obtain ⟨a1, r1, g1, g2, H1, h35⟩ := start_r (f := s) (t := t) H hB hf x.1 hbg tB
          refine ⟨1, a1, r1, sX _ (itp x.2.2.1 (cab g1 (bz1b rfl))), sY _ ((y37 _ _ _).trans (itp c6 (itn x.1 ?_))), H1, h35, Or.inr rfl⟩
          refine azb rfl c6 (stNb (azb rfl c6 ?_))
          have n1 : (pN (pN r 0 0 36 t) 19 0 s (-1)).1 17 0 s = r.1 17 0 s := rfl
          rw [n1]
          have yn := ynote (kd := 1) (sub := (s : Int)) (num := r.1 17 0 s) (z := pN (pN r 0 0 36 t) 19 0 s (-1)) i38 (by show ir t; unfold ir; omega) (by unfold ir; omega) (by unfold ir; omega) (by unfold ir; omega)
          rw [yn] at g2
          exact cab yn (cab g2 (bz1b rfl))
      · obtain ⟨k, rfl⟩ : ∃ k, s = 6 + k := ⟨s - 6, by omega⟩
        have hk : k < 64 := by omega
        have e6 : ((6 + k : Nat) : Int) - 6 = k := by omega
        rw [e6] at sX
        have y37 := fun K1 K2 K3 => yf37 (K1 := K1) (K2 := K2) (K3 := K3) N (by omega) q3 (r.1 0 0 9).toNat 0 FU (by show ((0 : Nat) : Int) + ((r.1 0 0 9).toNat : Nat) = r.1 0 0 9; omega) (by have : FU = 200 := rfl; omega) (by omega)
        have y188 := fun K1 K2 => yf188 (K1 := K1) (K2 := K2) N (by omega) q3 64 0 FU rfl (by decide) (by omega)
        rcases ev_k H hk with x | x
        · exact absurd x.2.2 q1.2.1
        · by_cases d : r.1 24 0 k = 2
          · obtain ⟨a1, r1, g1, g2, H1, h35⟩ := leave_r (k := k) (t := t) H hB hk d tB
            exact ⟨1, a1, r1, sX _ (itn (by omega) (itp (by omega) (cab g1 (bz1b rfl)))), sY _ ((y37 _ _ _).trans (itn c6 ((y188 _ _).trans (cab g2 (bz1b rfl))))), H1, by omega, Or.inr rfl⟩
          · obtain ⟨a1, r1, g1, g2, H1, h35⟩ := arrive_r (k := k) (t := t) H hB hk (by omega) tB
            exact ⟨1, a1, r1, sX _ (itn (by omega) (itn (by omega) (itp (by omega) (cab g1 (bz1b rfl))))), sY _ ((y37 _ _ _).trans (itn c6 ((y188 _ _).trans (cab g2 (bz1b rfl))))), H1, h35, Or.inr rfl⟩
    · exact absurd (q2 s q1.1) q1.2.1
  · rcases ysoon H (by omega) with ⟨s2, q2, -⟩ | ⟨q2, gy⟩
    · exact absurd (q1 s2 q2.1) q2.2.1
    · refine ⟨0, a, r, ?_, ?_, H.mono (by omega), hbg, Or.inl rfl⟩
      · refine cab gx ?_
        dsimp only
        exact rgb (by omega) (itp rfl (bz0b rfl))
      · refine cab (ybegun hbg) (cab gy ?_)
        dsimp only
        have c1 : cmpZ 0 0 = 0 := by
          unfold cmpZ
          rw [if_neg (by omega), if_pos rfl]
        rw [c1]
        exact rlb (by omega) (rgb (by omega) (itp rfl (bz0b rfl)))
/-- the reference's step from before its begin -/
theorem ystep_b {r1 : MemI} (h : di_Y_begin r = some r1) (h1 : r1.1 0 0 35 = 1) : di_Y_step r = di_Y_step r1 := by
  unfold di_Y_step
  rw [h, ybegun h1]
theorem g_step (H : Rel B 64 a r) (hB : B < 200000000) : ∃ v a1 r1, di_X_step a = some (v, a1) ∧ di_Y_step r = some (v, r1) ∧ Rel (B + 13000) 64 a1 r1 := by
  obtain ⟨a1, r1, b1, b2, H1, h35⟩ := begin_r H (by omega)
  obtain ⟨v, a2, r2, g1, g2, H2, -, hv⟩ := happen_r H1 (by omega) h35
  refine ⟨v, a2, r2, cab b1 (cab g1 ?_), (ystep_b b2 h35).trans g2, H2.mono (by omega)⟩
  dsimp only
  exact bzb hv rfl
theorem run_l {x1 : Int} (hx : 0 ≤ x1 ∧ x1 ≤ 50) {KX KY : Int → MemI → Option (Int × MemI)} : ∀ (m j n : Nat) {B : Int} {a r : MemI}, (j : Int) + m = x1 → m < n → Rel B 64 a r → B + 6000 * m < 250000000 → r.1 0 0 35 = 1 → ∃ (v : Int) (a1 r1 : MemI), di_X_run_22 KX n x1 j a = KX v a1 ∧ di_Y_run_14 KY n x1 j r = KY v r1 ∧ Rel (B + 6000 * m) 64 a1 r1 := by
  intro m
  induction m with
  | zero =>
    intro j n B a r hj hn H hB hbg
    obtain ⟨n, rfl⟩ : ∃ q, n = q + 1 := ⟨n - 1, by omega⟩
    refine ⟨j, a, r, ?_, ?_, H.mono (by omega)⟩
    · rw [di_X_run_22]
      exact rgb (by omega) (rgb (by omega) (itp (by omega) rfl))
    · rw [di_Y_run_14]
      exact rgb (by omega) (rgb (by omega) (itp (by omega) rfl))
  | succ m ih =>
    intro j n B a r hj hn H hB hbg
    obtain ⟨n, rfl⟩ : ∃ q, n = q + 1 := ⟨n - 1, by omega⟩
    obtain ⟨v, a1, r1, g1, g2, H1, h35, hv⟩ := happen_r H (by omega) hbg
    rcases hv with rfl | rfl
    · refine ⟨j, a1, r1, ?_, ?_, H1.mono (by omega)⟩
      · rw [di_X_run_22]
        refine rgb (by omega) (rgb (by omega) (itn (by omega) (cab g1 ?_)))
        dsimp only
        exact rgb (by omega) (itp rfl rfl)
      · rw [di_Y_run_14]
        refine rgb (by omega) (rgb (by omega) (itn (by omega) (cab g2 ?_)))
        dsimp only
        exact rgb (by omega) (itp rfl rfl)
    · obtain ⟨v, a2, r2, e1, e2, H2⟩ := ih (j + 1) n (by omega) (by omega) H1 (by omega) h35
      refine ⟨v, a2, r2, ?_, ?_, H2.mono (by omega)⟩
      · rw [di_X_run_22]
        refine rgb (by omega) (rgb (by omega) (itn (by omega) (cab g1 ?_)))
        dsimp only
        exact rgb (by omega) (itn (by omega) e1)
      · rw [di_Y_run_14]
        refine rgb (by omega) (rgb (by omega) (itn (by omega) (cab g2 ?_)))
        dsimp only
        exact rgb (by omega) (itn (by omega) e2)
theorem g_run (H : Rel B 64 a r) (hB : B < 200000000) {x1 : Int} (h1 : ir x1) : ∃ v a1 r1, di_X_run x1 a = some (v, a1) ∧ di_Y_run x1 r = some (v, r1) ∧ Rel (B + 310000) 64 a1 r1 := by
  have h1b := h1
  unfold ir at h1b
  by_cases c : 0 ≤ x1 ∧ x1 ≤ 50
  · by_cases c0 : x1 = 0
    · subst c0
      have eX : di_X_run_22 (fun x2 z5 => some (x2, z5)) FU 0 0 a = some (0, a) := by
        have : FU = 199 + 1 := rfl
        rw [this, di_X_run_22]
        exact rgb (by omega) (rgb (by omega) (itp (by omega) rfl))
      have eY : di_Y_run_14 (fun x2 z5 => some (x2, z5)) FU 0 0 r = some (0, r) := by
        have : FU = 199 + 1 := rfl
        rw [this, di_Y_run_14]
        exact rgb (by omega) (rgb (by omega) (itp (by omega) rfl))
      exact ⟨0, a, r, cab (xwi1 (by unfold ir; omega) (by unfold ir; omega) (by omega)) (rgb (by omega) (itn (by omega) (rgb (by omega) (itp (by omega) eX)))), rgb (by omega) (itn (by omega) (itp (by omega) eY)), H.mono (by omega)⟩
    · obtain ⟨a1, r1, b1, b2, H1, h35⟩ := begin_r H (by omega)
      obtain ⟨v, a2, r2, e1, e2, H2⟩ := run_l c (KX := fun x2 z5 => some (x2, z5)) (KY := fun x2 z5 => some (x2, z5)) x1.toNat 0 FU (by show ((0 : Nat) : Int) + (x1.toNat : Nat) = x1; omega) (by have : FU = 200 := rfl; omega) H1 (by omega) h35
      have e3 : di_Y_run_14 (fun x2 z5 => some (x2, z5)) FU x1 0 r = di_Y_run_14 (fun x2 z5 => some (x2, z5)) FU x1 0 r1 := by
        have : FU = 199 + 1 := rfl
        rw [this, di_Y_run_14, di_Y_run_14, ystep_b b2 h35]
        rw [rg_ok (by omega), rg_ok (by omega)]
        show (if x1 ≤ 0 then _ else _) = (if x1 ≤ 0 then _ else _)
        rw [if_neg (by omega), if_neg (by omega)]
      exact ⟨v, a2, r2, cab (xwi1 (by unfold ir; omega) (by unfold ir; omega) (by omega)) (rgb (by omega) (itn (by omega) (rgb (by omega) (itn (by omega) (cab b1 e1))))), rgb (by omega) (itn (by omega) (itp (by omega) (e3.trans e2))), H2.mono (by omega)⟩
  · refine ⟨-1, a, r, cab (xwi0 h1 (by unfold ir; omega) (by unfold ir; omega) c) (rgb (by omega) (itp rfl rfl)), ?_, H.mono (by omega)⟩
    refine rgb (by omega) ?_
    by_cases d : x1 < 0
    · exact itp d rfl
    · exact itn d (itn (by omega) rfl)
end STEP
