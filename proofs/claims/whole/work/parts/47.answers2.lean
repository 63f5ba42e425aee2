section ANSWERS2
variable {B : Int} {h : Nat} {a r : MemI} {x1 x2 : Int}
theorem s_waiting (H : Rel B h a r) (h1 : ir x1) (h2 : ir x2) : same a r (di_X_waiting x1 x2) (di_Y_waiting x1 x2) := by
  have hG := H.G
  unfold rG at hG
  by_cases c1 : 0 ≤ x1 ∧ x1 < 2 * r.1 0 0 0
  · obtain ⟨p, rfl⟩ : ∃ k : Nat, x1 = k := ⟨x1.toNat, by omega⟩
    by_cases c2 : x2 = -1
    · subst c2
      refine ⟨a.1 4 p 8, cab (xport1 (by omega) (by omega)) ?_, cab (yport1 (by omega) c1) ?_⟩
      · exact rgb (by omega) (itn (by omega) (rgb (by omega) (itp rfl (azb rfl (by omega) rfl))))
      · exact rgb (by omega) (itn (by omega) (rgb (by omega) (itp rfl (cab (yq_all H c1.2) rfl))))
    · by_cases c3 : 0 ≤ x2 ∧ x2 < r.1 0 0 9
      · refine ⟨(qn a p x2 : Int), cab (xport1 (by omega) (by omega)) ?_, cab (yport1 (by omega) c1) ?_⟩
        · exact rgb (by omega) (itn (by omega) (rgb h2 (itn c2 (cab (xflow1 (by dsimp only; omega) (by dsimp only; omega)) (rgb (by omega) (itn (by omega) (azb rfl (by omega) (cab (xq_of H c1.2 h2) rfl))))))))
        · exact rgb (by omega) (itn (by omega) (rgb h2 (itn c2 (cab (yflow1 (by dsimp only; omega) c3) (rgb (by omega) (itn (by omega) (cab (yq_of H c1.2 (by omega)) rfl)))))))
      · refine ⟨-1, cab (xport1 (by omega) (by omega)) ?_, cab (yport1 (by omega) c1) ?_⟩
        · exact rgb (by omega) (itn (by omega) (rgb h2 (itn c2 (cab (xflow0 h2 (by dsimp only; omega) (by dsimp only; omega)) (rgb (by omega) (itp rfl rfl))))))
        · exact rgb (by omega) (itn (by omega) (rgb h2 (itn c2 (cab (yflow0 h2 (by dsimp only; omega) c3) (rgb (by omega) (itp rfl rfl))))))
  · refine ⟨-1, cab (xport0 h1 (by omega) (by omega)) ?_, cab (yport0 h1 (by omega) c1) ?_⟩
    · exact rgb (by omega) (itp rfl rfl)
    · exact rgb (by omega) (itp rfl rfl)
theorem s_deficit (H : Rel B h a r) (h1 : ir x1) (h2 : ir x2) : same a r (di_X_deficit x1 x2) (di_Y_deficit x1 x2) := by
  have hG := H.G
  unfold rG at hG
  by_cases c1 : 0 ≤ x1 ∧ x1 < 2 * r.1 0 0 0
  · obtain ⟨p, rfl⟩ : ∃ k : Nat, x1 = k := ⟨x1.toNat, by omega⟩
    by_cases c3 : 0 ≤ x2 ∧ x2 < r.1 0 0 9
    · obtain ⟨f, rfl⟩ : ∃ k : Nat, x2 = k := ⟨x2.toNat, by omega⟩
      have hq := yq_of H c1.2 (f := (f : Int)) (by omega)
      have hL := H.L c1.2
      refine ⟨a.1 7 p f, cab (xport1 (by omega) (by omega)) ?_, cab (yport1 (by omega) c1) ?_⟩
      · exact rgb (by omega) (itn (by omega) (cab (xflow1 (by dsimp only; omega) (by dsimp only; omega)) (rgb (by omega) (itn (by omega) (azb rfl (by omega) (azb rfl (by omega) rfl))))))
      · have hle : qn a p f ≤ 8 := by
          have h8 := cnt_le (qx a p f) (a.1 4 p 8).toNat
          have h9 := (H.Q c1.2).2.1
          unfold qn
          omega
        refine rgb (by omega) (itn (by omega) (cab (yflow1 (by dsimp only; omega) c3) (rgb (by omega) (itn (by omega) (cab hq (rgb (by dsimp only; omega) ?_))))))
        by_cases c4 : qn a p f = 0
        · refine itp (by dsimp only; omega) ?_
          rw [hL.2.2.2.2.2.2.2 f (by omega) (fun i hi e => by
            have := (qn_pos H c1.2 (f := f)).mpr ⟨i, hi, e⟩
            omega)]
        · refine itn (by dsimp only; omega) (azb (j := 6 * p + f) (by omega) (by omega) ?_)
          obtain ⟨i, hi, e⟩ := (qn_pos H c1.2 (f := f)).mp (by omega)
          have x := (hL.2.2.2.2.1 i hi).2.2.2.1
          rw [e] at x
          show some (r.1 32 0 (6 * p + f), r) = some (a.1 7 p f, r)
          rw [show (f : Int).toNat = f from rfl] at x
          rw [x]
    · refine ⟨-1, cab (xport1 (by omega) (by omega)) ?_, cab (yport1 (by omega) c1) ?_⟩
      · exact rgb (by omega) (itn (by omega) (cab (xflow0 h2 (by dsimp only; omega) (by dsimp only; omega)) (rgb (by omega) (itp rfl rfl))))
      · exact rgb (by omega) (itn (by omega) (cab (yflow0 h2 (by dsimp only; omega) c3) (rgb (by omega) (itp rfl rfl))))
  · refine ⟨-1, cab (xport0 h1 (by omega) (by omega)) ?_, cab (yport0 h1 (by omega) c1) ?_⟩
    · exact rgb (by omega) (itp rfl rfl)
    · exact rgb (by omega) (itp rfl rfl)
theorem xlabel {k : Nat} (L : rLab a r k) : di_K_label k a = some (r.1 26 0 k + (if r.1 27 0 k = 0 then 0 else 128), a) := by
  unfold rLab at L
  refine rgb (by omega) ?_
  by_cases c : r.1 27 0 k = 0
  · refine itp (by omega) ?_
    rw [if_pos c, Int.add_zero, L.2.2.2.2.2.1]
  · refine itn (by omega) ?_
    rw [if_neg c, L.2.2.2.2.2.1]
theorem s_onPort (H : Rel B h a r) (h1 : ir x1) : same a r (di_X_onPort x1) (di_Y_onPort x1) := by
  have hG := H.G
  unfold rG at hG
  by_cases c1 : 0 ≤ x1 ∧ x1 < 2 * r.1 0 0 0
  · obtain ⟨p, rfl⟩ : ∃ k : Nat, x1 = k := ⟨x1.toNat, by omega⟩
    have hon := yon_r H c1.2
    rcases H.O c1.2 with o | o
    · refine ⟨-1, cab (xport1 (by omega) (by omega)) ?_, cab (yport1 (by omega) c1) ?_⟩
      · exact rgb (by omega) (itn (by omega) (azb rfl (by omega) (rgb (by dsimp only; omega) (itp o.1 rfl))))
      · exact rgb (by omega) (itn (by omega) (cab hon (rgb (by dsimp only; omega) (itp o.1 rfl))))
    · obtain ⟨k, hk⟩ : ∃ k : Nat, a.1 4 p 7 = k := ⟨(a.1 4 p 7).toNat, by omega⟩
      have e : (a.1 4 p 7).toNat = k := by omega
      rw [e] at o
      have L := (rP_in H.P (k := k) (by omega) (Or.inr o.2.2.1)).2.2.1
      have hlab := xlabel L
      unfold rLab at L
      refine ⟨256 * a.1 11 k 2 + (r.1 26 0 k + (if r.1 27 0 k = 0 then 0 else 128)), cab (xport1 (by omega) (by omega)) ?_, cab (yport1 (by omega) c1) ?_⟩
      · exact rgb (by omega) (itn (by omega) (azb rfl (by omega) (rgb (by dsimp only; omega) (itn (by dsimp only; omega) (azb rfl (by omega) (azb hk (by omega) (cab hlab rfl)))))))
      · refine rgb (by omega) (itn (by omega) (cab hon (rgb (by dsimp only; omega) (itn (by dsimp only; omega) (azb hk (by omega) (azb hk (by omega) (azb hk (by omega) (rgb (by dsimp only; omega) ?_))))))))
        dsimp only
        rw [L.2.2.1]
        by_cases c : r.1 27 0 k = 0
        · refine itp c ?_
          rw [if_pos c]
          refine congrArg some (Prod.ext ?_ rfl)
          show _ + _ + 0 = _
          omega
        · refine itn c ?_
          rw [if_neg c]
          refine congrArg some (Prod.ext ?_ rfl)
          show _ + _ + 128 = _
          omega
  · refine ⟨-1, cab (xport0 h1 (by omega) (by omega)) ?_, cab (yport0 h1 (by omega) c1) ?_⟩
    · exact rgb (by omega) (itp rfl rfl)
    · exact rgb (by omega) (itp rfl (itp rfl rfl))
theorem xhasTimer (H : Rel B h a r) {f : Nat} (hf : (f : Int) < r.1 0 0 9) : di_X_hasTimer f a = some ((if r.1 19 0 f = -1 ∧ r.1 21 0 f ≠ -1 then 1 else 0), a) := by
  have hG := H.G
  unfold rG at hG
  have hk := H.A.1 f (by omega)
  rw [rk_f (by omega) hf] at hk
  by_cases c1 : r.1 19 0 f = -1
  · rw [if_pos c1] at hk
    by_cases c2 : r.1 21 0 f = -1
    · rw [if_pos c2] at hk
      rw [if_neg (fun q => q.2 c2)]
      exact azb rfl (by omega) (rgb (by omega) (itn (by omega) rfl))
    · rw [if_neg c2] at hk
      rw [if_pos ⟨c1, c2⟩]
      exact azb rfl (by omega) (rgb (by omega) (itp hk rfl))
  · rw [if_neg c1] at hk
    rw [if_neg (fun q => c1 q.1)]
    exact azb rfl (by omega) (rgb (by omega) (itn (by omega) rfl))
theorem s_timer (H : Rel B h a r) (h1 : ir x1) : same a r (di_X_timer x1) (di_Y_timer x1) := by
  have hG := H.G
  unfold rG at hG
  by_cases c1 : 0 ≤ x1 ∧ x1 < r.1 0 0 9
  · obtain ⟨f, rfl⟩ : ∃ k : Nat, x1 = k := ⟨x1.toNat, by omega⟩
    have ht := xhasTimer H c1.2
    refine ⟨r.1 21 0 f, cab (xflow1 (by omega) (by omega)) ?_, cab (yflow1 (by omega) c1) ?_⟩
    · refine rgb (by omega) (itn (by omega) (cab ht ?_))
      by_cases c2 : r.1 19 0 f = -1 ∧ r.1 21 0 f ≠ -1
      · rw [if_pos c2]
        refine rgb (by omega) (itn (by omega) (azb rfl (by omega) ?_))
        have x := (H.A.2.1 f (by omega) (by rw [rk_f (by omega) c1.2, if_pos c2.1, if_neg c2.2]; omega)).1
        rw [rt_f (by omega), if_pos c2.1] at x
        show some (a.1 14 0 f, a) = _
        rw [x]
      · rw [if_neg c2]
        refine rgb (by omega) (itp rfl ?_)
        have e : r.1 21 0 f = -1 := by
          by_cases c3 : r.1 19 0 f = -1
          · by_cases c4 : r.1 21 0 f = -1
            · exact c4
            · exact absurd ⟨c3, c4⟩ c2
          · exact (H.N.1 f c1.2 c3).1
        rw [e]
    · exact rgb (by omega) (itn (by omega) (azb rfl (by omega) rfl))
  · refine ⟨-1, cab (xflow0 h1 (by omega) (by omega)) ?_, cab (yflow0 h1 (by omega) c1) ?_⟩
    · exact rgb (by omega) (itp rfl rfl)
    · exact rgb (by omega) (itp rfl rfl)
theorem s_count (H : Rel B h a r) (h1 : ir x1) (h2 : ir x2) : same a r (di_X_count x1 x2) (di_Y_count x1 x2) := by
  have hG := H.G
  unfold rG at hG
  by_cases c1 : 0 ≤ x1 ∧ x1 < r.1 0 0 9
  · obtain ⟨f, rfl⟩ : ∃ k : Nat, x1 = k := ⟨x1.toNat, by omega⟩
    obtain ⟨-, -, f3, f4⟩ := H.F f c1.2
    have sX : ∀ R, (if x2 = 0 then some (a.1 9 f 7, a) else if x2 = 1 then some (a.1 9 f 8, a) else if x2 = 2 then some (a.1 9 f 9, a) else if x2 = 3 then some (a.1 9 f 10, a) else if x2 = 4 then some (a.1 9 f 11, a) else if x2 = 5 then some (a.1 9 f 12, a) else if x2 = 6 then some (a.1 9 f 13, a) else some (-1, a)) = R → di_X_count f x2 a = R := by
      intro R hR
      refine cab (xflow1 (by omega) (by omega)) (rgb (by omega) (itn (by omega) (rgb h2 ?_)))
      rw [← hR]
      have az : ∀ g : Nat → Option (Int × MemI), (aiz 6 (f : Int)).bind g = g f := fun g => azb rfl (by omega) rfl
      simp only [az]
    have sY : ∀ R, (if x2 < 0 then some ((-1 : Int), r) else if x2 ≤ 6 then (if 3 ≤ x2 then (aiz 24 ((((4 : Int) * f) + x2) - 3)).bind fun j2 => some (r.1 23 0 j2, r) else if x2 = 0 then some (r.1 16 0 f, r) else if x2 = 1 then some (r.1 17 0 f, r) else some (r.1 18 0 f, r)) else some (-1, r)) = R → di_Y_count f x2 r = R := by
      intro R hR
      refine cab (yflow1 (by omega) c1) (rgb (by omega) (itn (by omega) (rgb h2 ?_)))
      rw [← hR]
      have az : ∀ g : Nat → Option (Int × MemI), (aiz 6 (f : Int)).bind g = g f := fun g => azb rfl (by omega) rfl
      simp only [az]
    by_cases c2 : 0 ≤ x2 ∧ x2 ≤ 6
    · rcases (show x2 = 0 ∨ x2 = 1 ∨ x2 = 2 ∨ x2 = 3 ∨ x2 = 4 ∨ x2 = 5 ∨ x2 = 6 by omega) with rfl | rfl | rfl | rfl | rfl | rfl | rfl
      · exact ⟨a.1 9 f 7, sX _ rfl, sY _ (by rw [f3.1]; rfl)⟩
      · exact ⟨a.1 9 f 8, sX _ rfl, sY _ (by rw [f3.2.2.2.1]; rfl)⟩
      · exact ⟨a.1 9 f 9, sX _ rfl, sY _ (by rw [f3.2.2.2.2.2.2.1]; rfl)⟩
      · exact ⟨a.1 9 f 10, sX _ rfl, sY _ (itn (by omega) (itp (by omega) (itp (by omega) (azb (j := 4 * f) (by omega) (by omega) (by rw [f4.1])))))⟩
      · exact ⟨a.1 9 f 11, sX _ rfl, sY _ (itn (by omega) (itp (by omega) (itp (by omega) (azb (j := 4 * f + 1) (by omega) (by omega) (by rw [f4.2.2.2.1])))))⟩
      · exact ⟨a.1 9 f 12, sX _ rfl, sY _ (itn (by omega) (itp (by omega) (itp (by omega) (azb (j := 4 * f + 2) (by omega) (by omega) (by rw [f4.2.2.2.2.2.2.1])))))⟩
      · exact ⟨a.1 9 f 13, sX _ rfl, sY _ (itn (by omega) (itp (by omega) (itp (by omega) (azb (j := 4 * f + 3) (by omega) (by omega) (by rw [f4.2.2.2.2.2.2.2.2.2.1])))))⟩
    · refine ⟨-1, sX _ (itn (by omega) (itn (by omega) (itn (by omega) (itn (by omega) (itn (by omega) (itn (by omega) (itn (by omega) rfl))))))), sY _ ?_⟩
      by_cases c3 : x2 < 0
      · exact itp c3 rfl
      · exact itn c3 (itn (by omega) rfl)
  · refine ⟨-1, cab (xflow0 h1 (by omega) (by omega)) ?_, cab (yflow0 h1 (by omega) c1) ?_⟩
    · exact rgb (by omega) (itp rfl rfl)
    · exact rgb (by omega) (itp rfl rfl)
end ANSWERS2
