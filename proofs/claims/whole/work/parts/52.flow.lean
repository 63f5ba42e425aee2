/-! ===== flow ===== -/
theorem flw183 {K : MemI → Option (Int × MemI)} {f : Nat} (hf : f < 6) : ∀ (m j n : Nat) (z : MemI), j + m = 4 → m < n → z.1 0 0 9 = f → ∃ z1 : MemI, (∀ c, c ≠ 23 → z1.1 c = z.1 c) ∧ z1.2 = z.2 ∧ (∀ k, z1.1 23 0 k = if 4 * f + j ≤ k ∧ k < 4 * f + 4 then 0 else z.1 23 0 k) ∧ di_Y_flow_183 K n j z = K z1 := by
  intro m
  induction m with
  | zero =>
    intro j n z hj hn h9
    obtain ⟨n, rfl⟩ : ∃ q, n = q + 1 := ⟨n - 1, by omega⟩
    refine ⟨z, fun _ _ => rfl, rfl, fun k => (if_neg (by omega)).symm, ?_⟩
    rw [di_Y_flow_183]
    exact rgb (by omega) (itp (by omega) rfl)
  | succ m ih =>
    intro j n z hj hn h9
    obtain ⟨n, rfl⟩ : ∃ q, n = q + 1 := ⟨n - 1, by omega⟩
    obtain ⟨z1, h1, h2, h3, h4⟩ := ih (j + 1) n (pN z 23 0 (4 * f + j) 0) (by omega) (by omega) h9
    refine ⟨z1, fun c hc => ?_, h2, fun k => ?_, ?_⟩
    · rw [h1 c hc]
      funext i k
      exact pN_ne (fun q => hc q.1)
    · rw [h3 k]
      by_cases e : k = 4 * f + j
      · subst e
        rw [if_neg (by omega), pN_at, if_pos (by omega)]
      · rw [pN_ne (fun q => e q.2.2)]
        by_cases c : 4 * f + (j + 1) ≤ k ∧ k < 4 * f + 4
        · rw [if_pos c, if_pos (by omega)]
        · rw [if_neg c, if_neg (by omega)]
    · rw [di_Y_flow_183]
      exact rgb (by omega) (itn (by omega) (azb (j := 4 * f + j) (by omega) (by omega) (stNb h4)))
theorem di_found_eq {f : Nat} {x1 x2 x3 x4 : Int} {z : MemI} : di_F_found f x1 x2 x3 x4 z = some (pN (pN (pN (pN (pN (pN (pN (pN (pN (pN (pN (pN (pN (pN z 9 f 0 x1) 9 f 1 x2) 9 f 2 x3) 9 f 3 x4) 9 f 4 4) 9 f 5 100) 9 f 6 0) 9 f 7 0) 9 f 8 0) 9 f 9 0) 9 f 10 0) 9 f 11 0) 9 f 12 0) 9 f 13 0) := rfl
section FLOW
variable {B : Int} {a r a1 r1 : MemI} {x1 x2 x3 x4 : Int} {f : Nat}
theorem flow_rel (hB : 0 ≤ B) (H : Rel B 64 a r) (h0 : r.1 0 0 35 = 0) (hf : r.1 0 0 9 = f) (hf6 : f < 6) (h1 : 0 ≤ x1 ∧ x1 ≤ 7) (h2 : 0 ≤ x2 ∧ x2 ≤ 7) (h3 : 1 ≤ x3 ∧ x3 ≤ 100) (h4 : 1 ≤ x4 ∧ x4 ≤ 8)
    (A0 : ∀ c, c ≠ 9 → c ≠ 0 → a1.1 c = a.1 c) (A1 : ∀ j, a1.1 0 0 j = if j = 7 then (f : Int) + 1 else a.1 0 0 j) (A2 : a1.2 = a.2) (A9 : ∀ g j, g ≠ f → a1.1 9 g j = a.1 9 g j) (A9f : ∀ j, j < 14 → a1.1 9 f j = if j = 0 then x1 else if j = 1 then x2 else if j = 2 then x3 else if j = 3 then x4 else if j = 4 then 4 else if j = 5 then 100 else 0)
    (R0 : ∀ c, c ≠ 0 → (c < 9 ∨ 24 ≤ c ∨ c = 20 ∨ c = 22) → r1.1 c = r.1 c) (R1 : ∀ j, r1.1 0 0 j = if j = 9 then (f : Int) + 1 else r.1 0 0 j) (R2 : r1.2 = r.2) (R9 : ∀ c g, 9 ≤ c → c ≤ 21 → g ≠ f → r1.1 c 0 g = r.1 c 0 g)
    (R9f : r1.1 9 0 f = x1 ∧ r1.1 10 0 f = x2 ∧ r1.1 11 0 f = x3 ∧ r1.1 12 0 f = x4 ∧ r1.1 13 0 f = 4 ∧ r1.1 14 0 f = 100 ∧ r1.1 15 0 f = 0 ∧ r1.1 16 0 f = 0 ∧ r1.1 17 0 f = 0 ∧ r1.1 18 0 f = 0 ∧ r1.1 19 0 f = -1 ∧ r1.1 21 0 f = -1) (R23 : ∀ k, r1.1 23 0 k = if 4 * f ≤ k ∧ k < 4 * f + 4 then 0 else r.1 23 0 k) : Rel B 64 a1 r1 := by
  have hG := H.G
  have r9 : r1.1 0 0 9 = (f : Int) + 1 := by rw [R1, if_pos rfl]
  have ro : ∀ j, j ≠ 9 → r1.1 0 0 j = r.1 0 0 j := fun j hj => by rw [R1, if_neg hj]
  have ao : ∀ j, j ≠ 7 → a1.1 0 0 j = a.1 0 0 j := fun j hj => by rw [A1, if_neg hj]
  have a7 : a1.1 0 0 7 = (f : Int) + 1 := by rw [A1, if_pos rfl]
  have ha11 : a1.1 11 = a.1 11 := A0 11 (by decide) (by decide)
  have ha4 : a1.1 4 = a.1 4 := A0 4 (by decide) (by decide)
  have hr24 : r1.1 24 = r.1 24 := R0 24 (by decide) (by omega)
  have hr25 : r1.1 25 = r.1 25 := R0 25 (by decide) (by omega)
  have hr28 : r1.1 28 = r.1 28 := R0 28 (by decide) (by omega)
  have hr30 : r1.1 30 = r.1 30 := R0 30 (by decide) (by omega)
  have e0 := ro 0 (by decide)
  have e37 := ro 37 (by decide)
  have e35 := ro 35 (by decide)
  have NN := H.N.2 h0
  refine ⟨?_, rK_c (fun p j _ => by rw [ha4]) e0 (R0 1 (by decide) (by omega)) (R0 2 (by decide) (by omega)) (R0 3 (by decide) (by omega)) (R0 4 (by decide) (by omega)) (R0 5 (by decide) (by omega)) H.K, rS_c (fun p => by rw [ha4]; exact ⟨rfl, rfl⟩) e0 (R0 6 (by decide) (by omega)) (R0 7 (by decide) (by omega)) H.S, rD_c (A0 2 (by decide) (by decide)) e0 (R0 1 (by decide) (by omega)) (R0 2 (by decide) (by omega)) (R0 3 (by decide) (by omega)) (R0 8 (by decide) (by omega)) H.D, fun g hg => ?_,
    rP_c ha11 (by rw [e0]; omega) (by rw [r9, hf]; omega) (fun g hg => ⟨R9 9 g (by omega) (by omega) (by omega), R9 10 g (by omega) (by omega) (by omega), R9 12 g (by omega) (by omega) (by omega)⟩) hr24 hr25 (R0 26 (by decide) (by omega)) (R0 27 (by decide) (by omega)) hr28 hr30 (by rw [e37]; omega) H.P,
    fun p hp => ⟨rQ_c (by rw [ha4]) (A0 5 (by decide) (by decide)) hr24 hr28 hr30 (H.Q (by rw [← e0]; exact hp)), rL_c (by rw [ha4]) (by rw [ha4]) (A0 6 (by decide) (by decide)) (A0 7 (by decide) (by decide)) (by rw [r9, hf]; omega) hr24 hr25 hr28 (R0 31 (by decide) (by omega)) (R0 32 (by decide) (by omega)) (R0 33 (by decide) (by omega)) (by rw [e37]; omega) (H.L (by rw [← e0]; exact hp)), rO_c (by rw [ha4]) hr24 hr28 (H.O (by rw [← e0]; exact hp))⟩, ?_, ⟨fun g hg hs => ?_, fun _ => ⟨fun k hk => by rw [ha11]; exact NN.1 k hk, fun g hg => ?_⟩⟩, rT_c A2 R2 (ro 38 (by decide)) H.T⟩
  · unfold rG at *
    rw [ao 6 (by decide), ao 8 (by decide), ao 9 (by decide), a7, A0 12 (by decide) (by decide), e0, r9, ro 36 (by decide), e35, e37, ro 38 (by decide)]
    omega
  · by_cases e : g = f
    · subst e
      obtain ⟨q1, q2, q3, q4, q5, q6, q7, q8, q9, q10, q11, q12⟩ := R9f
      have b0 : a1.1 9 g 0 = x1 := (A9f 0 (by omega)).trans rfl
      have b1 : a1.1 9 g 1 = x2 := (A9f 1 (by omega)).trans rfl
      have b2 : a1.1 9 g 2 = x3 := (A9f 2 (by omega)).trans rfl
      have b3 : a1.1 9 g 3 = x4 := (A9f 3 (by omega)).trans rfl
      have b4 : a1.1 9 g 4 = 4 := (A9f 4 (by omega)).trans rfl
      have b5 : a1.1 9 g 5 = 100 := (A9f 5 (by omega)).trans rfl
      have b6 : a1.1 9 g 6 = 0 := (A9f 6 (by omega)).trans rfl
      have b7 : a1.1 9 g 7 = 0 := (A9f 7 (by omega)).trans rfl
      have b8 : a1.1 9 g 8 = 0 := (A9f 8 (by omega)).trans rfl
      have b9 : a1.1 9 g 9 = 0 := (A9f 9 (by omega)).trans rfl
      have b10 : a1.1 9 g 10 = 0 := (A9f 10 (by omega)).trans rfl
      have b11 : a1.1 9 g 11 = 0 := (A9f 11 (by omega)).trans rfl
      have b12 : a1.1 9 g 12 = 0 := (A9f 12 (by omega)).trans rfl
      have b13 : a1.1 9 g 13 = 0 := (A9f 13 (by omega)).trans rfl
      have t0 : r1.1 23 0 (4 * g) = 0 := by rw [R23, if_pos (by omega)]
      have t1 : r1.1 23 0 (4 * g + 1) = 0 := by rw [R23, if_pos (by omega)]
      have t2 : r1.1 23 0 (4 * g + 2) = 0 := by rw [R23, if_pos (by omega)]
      have t3 : r1.1 23 0 (4 * g + 3) = 0 := by rw [R23, if_pos (by omega)]
      rw [b0, b1, b2, b3, b4, b5, b6, b7, b8, b9, b10, b11, b12, b13, t0, t1, t2, t3, q1, q2, q3, q4, q5, q6, q7, q8, q9, q10]
      omega
    · have x := H.F g (by rw [r9] at hg; omega)
      simp only [A9 g _ e]
      rw [R9 9 g (by omega) (by omega) e, R9 10 g (by omega) (by omega) e, R9 11 g (by omega) (by omega) e, R9 12 g (by omega) (by omega) e, R9 13 g (by omega) (by omega) e, R9 14 g (by omega) (by omega) e, R9 15 g (by omega) (by omega) e, R9 16 g (by omega) (by omega) e, R9 17 g (by omega) (by omega) e, R9 18 g (by omega) (by omega) e, R23, R23, R23, R23, if_neg (by omega), if_neg (by omega), if_neg (by omega), if_neg (by omega)]
      exact x
  · have hk : ∀ s, s < 70 → rk r1 64 s = rk r 64 s := by
      intro s hs
      by_cases c : s < 6
      · by_cases e : s = f
        · subst e
          rw [rk_f c (by rw [r9]; omega), rk_f0 c (by omega), R9f.2.2.2.2.2.2.2.2.2.2.1, R9f.2.2.2.2.2.2.2.2.2.2.2]
          rfl
        · by_cases d : (s : Int) < r.1 0 0 9
          · rw [rk_f c (by rw [r9]; omega), rk_f c d, R9 19 s (by omega) (by omega) e, R9 21 s (by omega) (by omega) e]
          · rw [rk_f0 c (by rw [r9]; omega), rk_f0 c d]
      · obtain ⟨k, rfl⟩ : ∃ k, s = 6 + k := ⟨s - 6, by omega⟩
        rw [rk_k, rk_k, hr24]
    have hz : ∀ s, s < 70 → rk r 64 s = 0 := by
      intro s hs
      by_cases c : s < 6
      · by_cases d : (s : Int) < r.1 0 0 9
        · have y := NN.2 s d
          rw [rk_f c d, y.1, y.2]
          rfl
        · exact rk_f0 c d
      · obtain ⟨k, rfl⟩ : ∃ k, s = 6 + k := ⟨s - 6, by omega⟩
        rcases H.P.1 k (by omega) (by omega) with y | y
        · rw [rk_k, y.2, if_neg (by omega)]
          rfl
        · have := NN.1 k (by omega)
          omega
    exact ⟨fun s hs => by rw [A0 13 (by decide) (by decide), hk s hs]; exact H.A.1 s hs, fun s hs q => absurd ((hk s hs).trans (hz s hs)) q, fun s t hs _ _ q _ => absurd ((hk s hs).trans (hz s hs)) q⟩
  · by_cases e : g = f
    · subst e
      exact absurd R9f.2.2.2.2.2.2.2.2.2.2.1 hs
    · rw [R9 19 g (by omega) (by omega) e] at hs
      exact absurd (NN.2 g (by rw [r9] at hg; omega)).1 hs
  · by_cases e : g = f
    · subst e
      exact ⟨R9f.2.2.2.2.2.2.2.2.2.2.1, R9f.2.2.2.2.2.2.2.2.2.2.2⟩
    · rw [R9 19 g (by omega) (by omega) e, R9 21 g (by omega) (by omega) e]
      exact NN.2 g (by rw [r9] at hg; omega)
theorem g_flow (hB : 0 ≤ B) (H : Rel B 64 a r) (h1 : ir x1) (h2 : ir x2) (h3 : ir x3) (h4 : ir x4) : goes B a r (di_X_flow x1 x2 x3 x4) (di_Y_flow x1 x2 x3 x4) := by
  have hG := H.G
  unfold rG at hG
  by_cases c0 : r.1 0 0 35 = 0
  · by_cases c6 : r.1 0 0 9 = 6
    · exact ⟨-1, a, r, rgb (by omega) (itp (by omega) (rgb (by omega) (itp (by omega) rfl))), rgb (by omega) (itp c0 (rgb (by omega) (itp c6 rfl))), H⟩
    by_cases c1 : 0 ≤ x1 ∧ x1 ≤ 7
    · by_cases c2 : 0 ≤ x2 ∧ x2 ≤ 7
      · by_cases c5 : x1 = x2
        · exact ⟨-1, a, r, rgb (by omega) (itp (by omega) (rgb (by omega) (itn (by omega) (cab (xnode1 c1) (rgb (by omega) (itn (by omega) (cab (xnode1 c2) (rgb (by omega) (itn (by omega) (rgb h1 (rgb h2 (itp c5 rfl)))))))))))), rgb (by omega) (itp c0 (rgb (by omega) (itn c6 (cab (ynode1 c1) (rgb (by omega) (itn (by omega) (cab (ynode1 c2) (rgb (by omega) (itn (by omega) (rgb h1 (rgb h2 (itp c5 rfl)))))))))))), H⟩
        by_cases c3 : 1 ≤ x3 ∧ x3 ≤ 100
        · by_cases c4 : 1 ≤ x4 ∧ x4 ≤ 8
          · obtain ⟨f, hf⟩ : ∃ f : Nat, r.1 0 0 9 = f := ⟨(r.1 0 0 9).toNat, by omega⟩
            have hf6 : f < 6 := by omega
            obtain ⟨z1, q1, q2, q3, q4⟩ := flw183 (K := fun z31 => stN (pN z31 0 0 9 ((z31.1 0 0 9) + (1 : Int))) fun z32 => some (((z32.1 0 0 9) - (1 : Int)), z32)) hf6 4 0 FU (pN (pN (pN (pN (pN (pN (pN (pN (pN (pN (pN (pN r 9 0 f x1) 10 0 f x2) 11 0 f x3) 12 0 f x4) 13 0 f 4) 14 0 f 100) 15 0 f 0) 16 0 f 0) 17 0 f 0) 18 0 f 0) 19 0 f (-1)) 21 0 f (-1)) rfl (by decide) hf
            have z9 : z1.1 0 0 9 = f := by rw [q1 0 (by decide)]; exact hf
            refine ⟨f, pN (pN (pN (pN (pN (pN (pN (pN (pN (pN (pN (pN (pN (pN (pN a 9 f 0 x1) 9 f 1 x2) 9 f 2 x3) 9 f 3 x4) 9 f 4 4) 9 f 5 100) 9 f 6 0) 9 f 7 0) 9 f 8 0) 9 f 9 0) 9 f 10 0) 9 f 11 0) 9 f 12 0) 9 f 13 0) 0 0 7 ((f : Int) + 1), pN z1 0 0 9 ((f : Int) + 1), ?_, ?_, ?_⟩
            · refine rgb (by omega) (itp (by omega) (rgb (by omega) (itn (by omega) (cab (xnode1 c1) (rgb (by omega) (itn (by omega) (cab (xnode1 c2) (rgb (by omega) (itn (by omega) (rgb h1 (rgb h2 (itn c5 (cab (xwi1 (by unfold ir; omega) (by unfold ir; omega) c3) (rgb (by omega) (itn (by omega) (cab (xwi1 (by unfold ir; omega) (by unfold ir; omega) c4) (rgb (by omega) (itn (by omega) (azb (j := f) (by omega) hf6 (cab (di_found_eq (z := a)) (stNb ?_)))))))))))))))))))))
              have e7 : a.1 0 0 7 = f := by omega
              show some (a.1 0 0 7, pN _ 0 0 7 (a.1 0 0 7 + 1)) = _
              rw [e7]
            · refine rgb (by omega) (itp c0 (rgb (by omega) (itn c6 (cab (ynode1 c1) (rgb (by omega) (itn (by omega) (cab (ynode1 c2) (rgb (by omega) (itn (by omega) (rgb h1 (rgb h2 (itn c5 (cab (ywi1 (by unfold ir; omega) (by unfold ir; omega) c3) (rgb (by omega) (itn (by omega) (cab (ywi1 (by unfold ir; omega) (by unfold ir; omega) c4) (rgb (by omega) (itn (by omega) ?_))))))))))))))))))
              refine azb (j := f) hf hf6 (stNb (azb (j := f) hf hf6 (stNb (azb (j := f) hf hf6 (stNb (azb (j := f) hf hf6 (stNb (azb (j := f) hf hf6 (stNb (azb (j := f) hf hf6 (stNb ?_)))))))))))
              refine azb (j := f) hf hf6 (stNb (azb (j := f) hf hf6 (stNb (azb (j := f) hf hf6 (stNb (azb (j := f) hf hf6 (stNb (azb (j := f) hf hf6 (stNb (azb (j := f) hf hf6 (stNb ?_)))))))))))
              refine q4.trans (stNb ?_)
              show some ((pN z1 0 0 9 (z1.1 0 0 9 + 1)).1 0 0 9 - 1, pN z1 0 0 9 (z1.1 0 0 9 + 1)) = _
              rw [pN_at, z9]
              refine congrArg some (Prod.ext ?_ rfl)
              show (f : Int) + 1 - 1 = f
              omega
            · refine flow_rel hB H c0 hf hf6 c1 c2 c3 c4 (fun c h9 h0 => ?_) (fun j => ?_) rfl (fun g j hg => ?_) (fun j hj => ?_) (fun c h0 hc => ?_) (fun j => ?_) ?_ (fun c g h9 h21 hg => ?_) ?_ (fun k => ?_)
              · funext i k
                simp only [pN_if, h9, h0, false_and, if_false]
              · simp only [pN_if]
                simp
              · simp only [pN_if]
                simp [hg]
              · rcases (show j = 0 ∨ j = 1 ∨ j = 2 ∨ j = 3 ∨ j = 4 ∨ j = 5 ∨ j = 6 ∨ j = 7 ∨ j = 8 ∨ j = 9 ∨ j = 10 ∨ j = 11 ∨ j = 12 ∨ j = 13 by omega) with rfl | rfl | rfl | rfl | rfl | rfl | rfl | rfl | rfl | rfl | rfl | rfl | rfl | rfl <;> simp [pN_if]
              · funext i k
                rw [pN_ne (fun q => h0 q.1), q1 c (by omega)]
                simp only [pN_if]
                repeat rw [if_neg (by omega)]
              · rw [pN_if]
                by_cases e : j = 9
                · rw [if_pos ⟨rfl, rfl, e⟩, if_pos e]
                · rw [if_neg (fun q => e q.2.2), if_neg e, q1 0 (by decide)]
                  rfl
              · show z1.2 = r.2
                rw [q2]
                rfl
              · rw [pN_ne (by omega), q1 c (by omega)]
                simp only [pN_if]
                repeat rw [if_neg (by omega)]
              · simp only [pN_ne (show ¬ ((9 : Nat) = 0 ∧ _) from fun q => absurd q.1 (by decide)), q1 9 (by decide), q1 10 (by decide), q1 11 (by decide), q1 12 (by decide), q1 13 (by decide), q1 14 (by decide), q1 15 (by decide), q1 16 (by decide), q1 17 (by decide), q1 18 (by decide), q1 19 (by decide), q1 21 (by decide), pN_if]
                simp
              · rw [pN_ne (by omega), q3 k]
                by_cases c : 4 * f ≤ k ∧ k < 4 * f + 4
                · rw [if_pos (by omega), if_pos c]
                · rw [if_neg (by omega), if_neg c]
                  rfl
          · exact ⟨-1, a, r, rgb (by omega) (itp (by omega) (rgb (by omega) (itn (by omega) (cab (xnode1 c1) (rgb (by omega) (itn (by omega) (cab (xnode1 c2) (rgb (by omega) (itn (by omega) (rgb h1 (rgb h2 (itn c5 (cab (xwi1 (by unfold ir; omega) (by unfold ir; omega) c3) (rgb (by omega) (itn (by omega) (cab (xwi0 h4 (by unfold ir; omega) (by unfold ir; omega) c4) (rgb (by omega) (itp rfl rfl)))))))))))))))))), rgb (by omega) (itp c0 (rgb (by omega) (itn c6 (cab (ynode1 c1) (rgb (by omega) (itn (by omega) (cab (ynode1 c2) (rgb (by omega) (itn (by omega) (rgb h1 (rgb h2 (itn c5 (cab (ywi1 (by unfold ir; omega) (by unfold ir; omega) c3) (rgb (by omega) (itn (by omega) (cab (ywi0 h4 (by unfold ir; omega) (by unfold ir; omega) c4) (rgb (by omega) (itp rfl rfl)))))))))))))))))), H⟩
        · exact ⟨-1, a, r, rgb (by omega) (itp (by omega) (rgb (by omega) (itn (by omega) (cab (xnode1 c1) (rgb (by omega) (itn (by omega) (cab (xnode1 c2) (rgb (by omega) (itn (by omega) (rgb h1 (rgb h2 (itn c5 (cab (xwi0 h3 (by unfold ir; omega) (by unfold ir; omega) c3) (rgb (by omega) (itp rfl rfl))))))))))))))), rgb (by omega) (itp c0 (rgb (by omega) (itn c6 (cab (ynode1 c1) (rgb (by omega) (itn (by omega) (cab (ynode1 c2) (rgb (by omega) (itn (by omega) (rgb h1 (rgb h2 (itn c5 (cab (ywi0 h3 (by unfold ir; omega) (by unfold ir; omega) c3) (rgb (by omega) (itp rfl rfl))))))))))))))), H⟩
      · exact ⟨-1, a, r, rgb (by omega) (itp (by omega) (rgb (by omega) (itn (by omega) (cab (xnode1 c1) (rgb (by omega) (itn (by omega) (cab (xnode0 h2 c2) (rgb (by omega) (itp rfl rfl))))))))), rgb (by omega) (itp c0 (rgb (by omega) (itn c6 (cab (ynode1 c1) (rgb (by omega) (itn (by omega) (cab (ynode0 h2 c2) (rgb (by omega) (itp rfl rfl))))))))), H⟩
    · exact ⟨-1, a, r, rgb (by omega) (itp (by omega) (rgb (by omega) (itn (by omega) (cab (xnode0 h1 c1) (rgb (by omega) (itp rfl rfl)))))), rgb (by omega) (itp c0 (rgb (by omega) (itn c6 (cab (ynode0 h1 c1) (rgb (by omega) (itp rfl rfl)))))), H⟩
  · exact ⟨-1, a, r, rgb (by omega) (itn (by omega) rfl), rgb (by omega) (itn c0 rfl), H⟩
end FLOW
