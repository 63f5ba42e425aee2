/-! ===== the four events ===== -/
theorem pN_same (z : MemI) (c i k : Nat) : pN z c i k (z.1 c i k) = z := by
  refine Prod.ext ?_ rfl
  funext x y w
  rw [pN_if]
  by_cases e : x = c ∧ y = i ∧ w = k
  · rw [if_pos e, e.1, e.2.1, e.2.2]
  · rw [if_neg e]
theorem nt_comm (z : MemI) {c i k : Nat} {v kd sub num : Int} (hc : c ≠ 0) : nt (pN z c i k v) kd sub num = pN (nt z kd sub num) c i k v := by
  unfold nt
  have e38 : (pN z c i k v).1 0 0 38 = z.1 0 0 38 := pN_ne (fun q => hc q.1.symm)
  have e36 : (pN z c i k v).1 0 0 36 = z.1 0 0 36 := pN_ne (fun q => hc q.1.symm)
  rw [e38, e36]
  exact pN_comm (pM z _ _) (fun q => hc q.1)
section HAPPEN
variable {B B1 : Int} {a r : MemI} {f k p : Nat} {t tk kd sub num : Int}
theorem ynote {z : MemI} (h38 : 0 ≤ z.1 0 0 38 ∧ z.1 0 0 38 < 2147483648) (h36 : ir (z.1 0 0 36)) (h1 : ir kd) (h2 : ir sub) (h3 : ir num) : di_Y_note kd sub num z = some (nt z kd sub num) :=
  nnb h38 (azb (j := (z.1 0 0 38 % 16).toNat) (by omega) (by omega) (rgb h36 (rgb h1 (rgb h2 (rgb h3 (stNb (stNb rfl)))))))
theorem start_r (H : Rel B 64 a r) (hB : B < 300000000) (hf : (f : Int) < r.1 0 0 9) (hs : r.1 19 0 f ≠ -1) (hbg : r.1 0 0 35 = 1) (ht : 0 ≤ t ∧ t ≤ B) : ∃ a1 r1, di_X_start f (pN (pN a 0 0 8 t) 13 0 f 0) = some a1 ∧ ((di_Y_note 1 f (r.1 17 0 f) (pN (pN r 0 0 36 t) 19 0 f (-1))).bind fun z => di_Y_fill f z) = some r1 ∧ Rel (B + 6000) 64 a1 r1 ∧ r1.1 0 0 35 = 1 := by
  have hG := H.G
  unfold rG at hG
  have F := H.F f hf
  have H1 := note_rel (kd := 1) (sub := (f : Int)) (num := r.1 17 0 f) (now_rel H ht) (by omega)
  have H2 := unf_rel (f := f) H1 hf (Or.inl ⟨rfl, hs⟩) hbg
  obtain ⟨a1, r1, g1, g2, H3, h35⟩ := fill_r (f := f) H2 (by omega) hf (pN_at _ _ _ _ _) hbg
  refine ⟨a1, r1, ?_, ?_, H3.mono (by omega), h35⟩
  · refine azb rfl (by omega) ?_
    have e8 : (pN (pN a 0 0 8 t) 13 0 f 0).1 9 f 8 = r.1 17 0 f := by
      show a.1 9 f 8 = _
      omega
    rw [e8]
    refine cab (xrem (by show ir t; unfold ir; omega) (by unfold ir; omega) (by unfold ir; omega) (by unfold ir; omega)) ?_
    exact cab g1 rfl
  · refine cab (ynote (by show 0 ≤ r.1 0 0 38 ∧ r.1 0 0 38 < 2147483648; omega) (by show ir t; unfold ir; omega) (by unfold ir; omega) (by unfold ir; omega) (by unfold ir; omega)) ?_
    rw [nt_comm _ (by decide)]
    exact g2
theorem timeout_r (H : Rel B 64 a r) (hB : B < 300000000) (hf : (f : Int) < r.1 0 0 9) (hs : r.1 19 0 f = -1) (hbg : r.1 0 0 35 = 1) (ht : 0 ≤ t ∧ t ≤ B) : ∃ a1 r1, di_X_timeOut f (pN (pN a 0 0 8 t) 13 0 f 0) = some a1 ∧ ((di_Y_note 4 f (r.1 16 0 f) (pN (pN (pN r 0 0 36 t) 21 0 f (-1)) 23 0 (4 * f + 3) (r.1 23 0 (4 * f + 3) + 1))).bind fun z => di_Y_fill f (pN z 17 0 f (r.1 16 0 f))) = some r1 ∧ Rel (B + 6000) 64 a1 r1 ∧ r1.1 0 0 35 = 1 := by
  have hG := H.G
  unfold rG at hG
  have F := H.F f hf
  have H1 := note_rel (kd := 4) (sub := (f : Int)) (num := r.1 16 0 f) (now_rel H ht) (by omega)
  have H2 := unf_rel (f := f) H1 hf (Or.inr ⟨rfl, hs⟩) hbg
  have H3 := tally_rel (f := f) H2 (sl := 13) (tl := 3) (by omega) rfl
  have H4 := num_rel (f := f) (i := 1) (n := r.1 16 0 f) H3 (by omega) (by omega) ⟨fun q => by omega, fun _ => Int.le_refl _⟩
  obtain ⟨a1, r1, g1, g2, H5, h35⟩ := fill_r (f := f) H4 (by omega) hf hs hbg
  refine ⟨a1, r1, ?_, ?_, H5.mono (by omega), h35⟩
  · refine azb rfl (by omega) ?_
    have e8 : (pN (pN a 0 0 8 t) 13 0 f 0).1 9 f 7 = r.1 16 0 f := by
      show a.1 9 f 7 = _
      omega
    rw [e8]
    refine cab (xrem (by show ir t; unfold ir; omega) (by unfold ir; omega) (by unfold ir; omega) (by unfold ir; omega)) (stNb (stNb ?_))
    have e7 : ∀ (z : MemI) (x : Int), (pN z 9 f 13 x).1 9 f 7 = z.1 9 f 7 := fun z x => by rw [pN_ne (by omega)]
    rw [e7]
    have e9 : (rem (pN (pN a 0 0 8 t) 13 0 f 0) 4 f (r.1 16 0 f)).1 9 f 7 = r.1 16 0 f := by
      show a.1 9 f 7 = _
      omega
    rw [e9]
    exact cab g1 rfl
  · refine cab (ynote (by show 0 ≤ r.1 0 0 38 ∧ r.1 0 0 38 < 2147483648; omega) (by show ir t; unfold ir; omega) (by unfold ir; omega) (by unfold ir; omega) (by unfold ir; omega)) ?_
    rw [nt_comm _ (by decide), nt_comm _ (by decide)]
    exact g2
theorem leave_rel (H : Rel B 64 a r) (hB : B + 1 ≤ B1) (hk : k < 64) (k24 : r.1 24 0 k = 2) (k28 : r.1 28 0 k = p) (htk : 0 ≤ tk ∧ tk ≤ B1) : Rel B1 64 (agS (pN (pN a 13 0 (6 + k) 0) 4 p 7 (-1)) (6 + k) 3 tk) (pN (pN (pN (pN r 24 0 k 3) 29 0 k tk) 0 0 37 (r.1 0 0 37 + 1)) 30 0 k (r.1 0 0 37 + 1)) := by
  have hG := H.G
  have hG2 := hG
  unfold rG at hG2
  have kin := rP_in H.P hk (Or.inr k24)
  have hp : (p : Int) < 2 * r.1 0 0 0 := by omega
  generalize ha1 : agS (pN (pN a 13 0 (6 + k) 0) 4 p 7 (-1)) (6 + k) 3 tk = a1
  generalize hr1 : pN (pN (pN (pN r 24 0 k 3) 29 0 k tk) 0 0 37 (r.1 0 0 37 + 1)) 30 0 k (r.1 0 0 37 + 1) = r1
  have b0 : ∀ c, c ≠ 4 → c ≠ 12 → c ≠ 13 → c ≠ 14 → c ≠ 15 → a1.1 c = a.1 c := fun c h4 h12 h13 h14 h15 => by
    rw [← ha1, agS_o h12 h13 h14 h15]
    funext i j
    rw [pN_ne (fun q => h4 q.1), pN_ne (fun q => h13 q.1)]
  have b4 : ∀ q j, q ≠ p ∨ j ≠ 7 → a1.1 4 q j = a.1 4 q j := fun q j hq => by
    rw [← ha1, agS_o (by decide) (by decide) (by decide) (by decide), pN_ne (by omega), pN_ne (by omega)]
  have b47 : a1.1 4 p 7 = -1 := by rw [← ha1, agS_o (by decide) (by decide) (by decide) (by decide), pN_at]
  have c0 : ∀ c, c ≠ 0 → c ≠ 24 → c ≠ 29 → c ≠ 30 → r1.1 c = r.1 c := fun c h0 h24 h29 h30 => by
    funext i j
    rw [← hr1, pN_ne (fun q => h30 q.1), pN_ne (fun q => h0 q.1), pN_ne (fun q => h29 q.1), pN_ne (fun q => h24 q.1)]
  have c1 : ∀ j, j ≠ 37 → r1.1 0 0 j = r.1 0 0 j := fun j hj => by
    rw [← hr1, pN_ne (by omega), pN_ne (by omega), pN_ne (by omega), pN_ne (by omega)]
  have c37 : r1.1 0 0 37 = r.1 0 0 37 + 1 := by rw [← hr1, pN_ne (by omega), pN_at]
  have c24 : ∀ j, r1.1 24 0 j = if j = k then 3 else r.1 24 0 j := fun j => by
    rw [← hr1, pN_ne (by omega), pN_ne (by omega), pN_ne (by omega), pN_if]
    by_cases e : j = k
    · rw [if_pos e, if_pos ⟨rfl, rfl, e⟩]
    · rw [if_neg e, if_neg (fun q => e q.2.2)]
  have c29 : ∀ j, r1.1 29 0 j = if j = k then tk else r.1 29 0 j := fun j => by
    rw [← hr1, pN_ne (by omega), pN_ne (by omega), pN_if]
    by_cases e : j = k
    · rw [if_pos e, if_pos ⟨rfl, rfl, e⟩]
    · rw [if_neg e, if_neg (fun q => e q.2.2), pN_ne (by omega)]
  have c30 : ∀ j, r1.1 30 0 j = if j = k then r.1 0 0 37 + 1 else r.1 30 0 j := fun j => by
    rw [← hr1, pN_if]
    by_cases e : j = k
    · rw [if_pos e, if_pos ⟨rfl, rfl, e⟩]
    · rw [if_neg e, if_neg (fun q => e q.2.2), pN_ne (by omega), pN_ne (by omega), pN_ne (by omega)]
  have h25 := c0 25 (by decide) (by decide) (by decide) (by decide)
  have h28 := c0 28 (by decide) (by decide) (by decide) (by decide)
  have k3 : r1.1 24 0 k = 3 := by rw [c24, if_pos rfl]
  have E : ∀ j, j ≠ k → r1.1 24 0 j = r.1 24 0 j ∧ r1.1 25 0 j = r.1 25 0 j ∧ r1.1 28 0 j = r.1 28 0 j ∧ r1.1 30 0 j = r.1 30 0 j := fun j hj => by
    rw [c24, if_neg hj, c30, if_neg hj, h25, h28]
    exact ⟨rfl, rfl, rfl, rfl⟩
  have a11 := b0 11 (by decide) (by decide) (by decide) (by decide) (by decide)
  have lab : ∀ j, rLab a r j → rLab a1 r1 j := fun j => rLab_c (fun i => Or.inl (by rw [a11])) (by rw [c1 9 (by decide)]; omega) (fun g _ => by rw [c0 9 (by decide) (by decide) (by decide) (by decide), c0 10 (by decide) (by decide) (by decide) (by decide), c0 12 (by decide) (by decide) (by decide) (by decide)]; exact ⟨rfl, rfl, rfl⟩) (by rw [h25]) (by rw [c0 26 (by decide) (by decide) (by decide) (by decide)]) (by rw [c0 27 (by decide) (by decide) (by decide) (by decide)])
  have n1 : ¬ r.1 24 0 k = 1 := by omega
  refine ⟨?_, rK_c (a := a) (r := r) (fun q j hj => b4 q j (Or.inr (by omega))) (c1 0 (by decide)) (c0 1 (by decide) (by decide) (by decide) (by decide)) (c0 2 (by decide) (by decide) (by decide) (by decide)) (c0 3 (by decide) (by decide) (by decide) (by decide)) (c0 4 (by decide) (by decide) (by decide) (by decide)) (c0 5 (by decide) (by decide) (by decide) (by decide)) H.K, rS_c (a := a) (r := r) (fun q => ⟨b4 q 5 (Or.inr (by omega)), b4 q 6 (Or.inr (by omega))⟩) (c1 0 (by decide)) (c0 6 (by decide) (by decide) (by decide) (by decide)) (c0 7 (by decide) (by decide) (by decide) (by decide)) H.S, rD_c (a := a) (r := r) (b0 2 (by decide) (by decide) (by decide) (by decide) (by decide)) (c1 0 (by decide)) (c0 1 (by decide) (by decide) (by decide) (by decide)) (c0 2 (by decide) (by decide) (by decide) (by decide)) (c0 3 (by decide) (by decide) (by decide) (by decide)) (c0 8 (by decide) (by decide) (by decide) (by decide)) H.D,
    rF_c (a := a) (r := r) (b0 9 (by decide) (by decide) (by decide) (by decide) (by decide)) (c1 9 (by decide)) (fun c h1 h2 => c0 c (by omega) (by omega) (by omega) (by omega)) (c0 23 (by decide) (by decide) (by decide) (by decide)) (by omega) H.F, ⟨fun j hj _ => ?_, fun hh => by omega⟩, fun q hq => ?_, ?_, rN_c (a := a) (r := r) (fun j => by rw [a11]) (c1 9 (by decide)) (c1 35 (by decide)) (c0 19 (by decide) (by decide) (by decide) (by decide)) (c0 21 (by decide) (by decide) (by decide) (by decide)) h25 H.N, rT_c (a := a) (r := r) (by rw [← ha1]; rfl) (by rw [← hr1]; rfl) (c1 38 (by decide)) H.T⟩
  · unfold rG
    rw [b0 0 (by decide) (by decide) (by decide) (by decide) (by decide), c1 0 (by decide), c1 9 (by decide), c1 36 (by decide), c1 35 (by decide), c1 38 (by decide), c37, ← ha1, agS_12]
    have e12 : (pN (pN a 13 0 (6 + k) 0) 4 p 7 (-1)).1 12 0 3 = a.1 12 0 3 := rfl
    rw [e12]
    omega
  · rw [a11, c1 0 (by decide), c37]
    by_cases e : j = k
    · subst e
      rw [k3, c30, if_pos rfl, h28]
      exact Or.inr ⟨kin.2.1, by omega, by omega, lab j kin.2.2.1, kin.2.2.2.1, kin.2.2.2.2.1, kin.2.2.2.2.2.1, by omega, by omega⟩
    · have z := E j e
      rw [z.1, z.2.2.1, z.2.2.2]
      rcases H.P.1 j hj (by omega) with x | x
      · exact Or.inl x
      · exact Or.inr ⟨x.1, x.2.1, x.2.2.1, lab j x.2.2.2.1, x.2.2.2.2.1, x.2.2.2.2.2.1, x.2.2.2.2.2.2.1, x.2.2.2.2.2.2.2.1, by omega⟩
  · have hq2 : (q : Int) < 2 * r.1 0 0 0 := by rw [← c1 0 (by decide)]; exact hq
    refine ⟨othQ (k := k) E (fun x => n1 x.1) (fun x => by omega) (b4 q 8 (Or.inr (by omega))) (by rw [b0 5 (by decide) (by decide) (by decide) (by decide) (by decide)]) (H.Q hq2), othL (k := k) E (fun x => n1 x.1) (fun x => by omega) (b4 q 9 (Or.inr (by omega))) (b4 q 10 (Or.inr (by omega))) (by rw [b0 6 (by decide) (by decide) (by decide) (by decide) (by decide)]) (by rw [b0 7 (by decide) (by decide) (by decide) (by decide) (by decide)]) (c1 9 (by decide)) (by omega) (by omega) (fun g _ => by rw [c0 31 (by decide) (by decide) (by decide) (by decide), c0 32 (by decide) (by decide) (by decide) (by decide), c0 33 (by decide) (by decide) (by decide) (by decide)]; exact ⟨rfl, rfl, rfl⟩) (H.L hq2), ?_⟩
    by_cases e : q = p
    · subst e
      unfold rO
      rw [b47]
      refine Or.inl ⟨rfl, fun j hj h1 h2 => ?_⟩
      have nj : j ≠ k := fun e => by
        subst e
        omega
      have z := E j nj
      rw [z.1] at h1
      rw [z.2.2.1] at h2
      rcases H.O hq2 with x | x
      · exact x.2 j hj h1 h2
      · have y1 := x.2.2.2.2 j hj h1 h2
        have y2 := x.2.2.2.2 k hk k24 k28
        omega
    · exact othO (k := k) E (fun x => by omega) (fun x => by omega) (b4 q 7 (Or.inl e)) (H.O hq2)
  · have s19 := c0 19 (by decide) (by decide) (by decide) (by decide)
    have s20 := c0 20 (by decide) (by decide) (by decide) (by decide)
    have s21 := c0 21 (by decide) (by decide) (by decide) (by decide)
    have s22 := c0 22 (by decide) (by decide) (by decide) (by decide)
    have z13 : ∀ s, s ≠ 6 + k → (pN (pN a 13 0 (6 + k) 0) 4 p 7 (-1)).1 13 0 s = a.1 13 0 s := fun s hs => by rw [pN_ne (by omega), pN_ne (by omega)]
    refine rA_set (s0 := 6 + k) (kd := 3) (tk := tk) H.A (by decide) (fun s hs => by rw [← ha1, agS_13, if_neg hs]; exact z13 s hs) (by rw [← ha1, agS_13, if_pos rfl]) (fun s hs => by rw [← ha1, agS_14, if_neg hs]; rfl) (by rw [← ha1, agS_14, if_pos rfl]) (fun s hs => by rw [← ha1, agS_15, if_neg hs]; rfl) (by rw [← ha1, agS_15, if_pos rfl]; rfl) (by rw [← ha1, agS_12]; rfl) (by omega) (fun s hs ne => ?_) ?_ (fun s hs ne _ => ?_) ⟨?_, htk⟩ ?_ (by omega) (by omega)
    · by_cases c : s < 6
      · unfold rk
        rw [if_pos c, if_pos c, c1 9 (by decide), s19, s21]
      · obtain ⟨j, rfl⟩ : ∃ j, s = 6 + j := ⟨s - 6, by omega⟩
        rw [rk_k, rk_k, (E j (by omega)).1]
    · rw [rk_k, if_neg (by omega), k3]
      rfl
    · by_cases c : s < 6
      · rw [rt_f c, rt_f c, ru_f c, ru_f c, s19, s20, s21, s22]
        exact ⟨rfl, rfl⟩
      · obtain ⟨j, rfl⟩ : ∃ j, s = 6 + j := ⟨s - 6, by omega⟩
        rw [rt_k, rt_k, ru_k, ru_k, c29, if_neg (by omega), c30, if_neg (by omega)]
        exact ⟨rfl, rfl⟩
    · rw [rt_k, c29, if_pos rfl]
    · rw [ru_k, c30, if_pos rfl, c37]
      omega
theorem ymoved (L : rLab a r k) (hk : k < 64) : ∀ R, (∀ n : Int, n = r.1 26 0 k + (if r.1 27 0 k = 0 then 0 else 128) → (if r.1 24 0 k = 3 then (di_Y_leads (r.1 28 0 k) r).bind fun r16 => (di_Y_note 3 r16.1 n r16.2).bind fun z17 => di_Y_arrive k z17 else (di_Y_note 2 (r.1 28 0 k) n r).bind fun z5 => stN (pN z5 24 0 k 3) fun z7 => (nn (r.1 28 0 k)).bind fun _ => (aiz 12 (r.1 28 0 k / 2)).bind fun j8 => stN (pN z7 29 0 k (z7.1 0 0 36 + z7.1 5 0 j8)) fun z10 => stN (pN z10 0 0 37 (z10.1 0 0 37 + 1)) fun z11 => stN (pN z11 30 0 k (z10.1 0 0 37 + 1)) fun z13 => (di_Y_queued (r.1 28 0 k) (-1) z13).bind fun r14 => (rg r14.1).bind fun _ => if r14.1 ≤ 0 then some r14.2 else di_Y_choose (r.1 28 0 k) r14.2) = R) → ir (r.1 24 0 k) → di_Y_moved k r = R := by
  intro R hR h24
  unfold rLab at L
  have az : ∀ g : Nat → Option MemI, (aiz 64 (k : Int)).bind g = g k := fun g => azb rfl hk rfl
  have id1 : ∀ o : Option MemI, (o.bind fun z => some z) = o := fun o => by cases o <;> rfl
  have hR2 := hR _ rfl
  unfold di_Y_moved
  simp only [az, id1]
  refine rgb (by omega) ?_
  by_cases c : r.1 27 0 k = 0
  · rw [if_pos c, Int.add_zero] at hR2
    refine itp c (rgb h24 ?_)
    exact hR2
  · rw [if_neg c] at hR2
    refine itn c (stWb (rgb h24 ?_))
    exact hR2
theorem leave_r (H : Rel B 64 a r) (hB : B < 300000000) (hk : k < 64) (k24 : r.1 24 0 k = 2) (ht : 0 ≤ t ∧ t ≤ B) : ∃ a1 r1, di_X_leave k (pN (pN a 0 0 8 t) 13 0 (6 + k) 0) = some a1 ∧ di_Y_moved k (pN r 0 0 36 t) = some r1 ∧ Rel (B + 6000) 64 a1 r1 ∧ r1.1 0 0 35 = r.1 0 0 35 := by
  have hG := H.G
  unfold rG at hG
  have kin := rP_in H.P hk (Or.inr k24)
  obtain ⟨p, hp⟩ : ∃ p : Nat, r.1 28 0 k = p := ⟨(r.1 28 0 k).toNat, by omega⟩
  have lab := kin.2.2.1
  have lab2 := lab
  unfold rLab at lab2
  have hpl : (p : Int) < 2 * r.1 0 0 0 := by omega
  obtain ⟨u, w2, hu, hw2, hp24, hl, p1, p2, p3, p4, p5, p6, p7, p8, p9, p10, p11, p12, p13, -⟩ := port_d H hpl
  generalize hn : r.1 26 0 k + (if r.1 27 0 k = 0 then 0 else 128) = n
  have nr : 0 ≤ n ∧ n ≤ 228 := by rw [← hn]; split <;> omega
  have H1 := note_rel (kd := 2) (sub := (p : Int)) (num := n) (now_rel H ht) (by omega)
  have H2 := leave_rel (p := p) (tk := t + r.1 5 0 (p / 2)) (B1 := B + 60) H1 (by omega) hk k24 hp (by omega)
  generalize ha2 : agS (pN (pN (rem (pN a 0 0 8 t) 2 p n) 13 0 (6 + k) 0) 4 p 7 (-1)) (6 + k) 3 (t + r.1 5 0 (p / 2)) = a2 at H2
  have e37 : (nt (pN r 0 0 36 t) 2 p n).1 0 0 37 = r.1 0 0 37 := rfl
  generalize hr2 : pN (pN (pN (pN (nt (pN r 0 0 36 t) 2 p n) 24 0 k 3) 29 0 k (t + r.1 5 0 (p / 2))) 0 0 37 ((nt (pN r 0 0 36 t) 2 p n).1 0 0 37 + 1)) 30 0 k ((nt (pN r 0 0 36 t) 2 p n).1 0 0 37 + 1) = r2 at H2
  have r20 : r2.1 0 0 0 = r.1 0 0 0 := by rw [← hr2]; rfl
  have r235 : r2.1 0 0 35 = r.1 0 0 35 := by rw [← hr2]; rfl
  have hp2 : (p : Int) < 2 * r2.1 0 0 0 := by rw [r20]; exact hpl
  have a48 : a2.1 4 p 8 = a.1 4 p 8 := by
    rw [← ha2, agS_o (by decide) (by decide) (by decide) (by decide), pN_ne (by omega)]
    rfl
  have a47 : a2.1 4 p 7 = -1 := by rw [← ha2, agS_o (by decide) (by decide) (by decide) (by decide), pN_at]
  have q8 := H.Q hpl
  have yq := yq_all H2 hp2
  have lab0 : rLab (pN a 0 0 8 t) (pN r 0 0 36 t) k := (rP_in (now_rel H ht).P hk (Or.inr k24)).2.2.1
  have labX : rLab (pN (pN a 0 0 8 t) 13 0 (6 + k) 0) (pN r 0 0 36 t) k := rLab_c (a := pN a 0 0 8 t) (r := pN r 0 0 36 t) (fun i => Or.inl rfl) (Int.le_refl _) (fun _ _ => ⟨rfl, rfl, rfl⟩) rfl rfl rfl lab0
  have sX : ∀ R, (if a2.1 4 p 8 ≤ 0 then some a2 else (di_X_choose p a2).bind fun z7 => some z7) = R → di_X_leave k (pN (pN a 0 0 8 t) 13 0 (6 + k) 0) = R := by
    intro R hR
    have e6 : (pN (pN a 0 0 8 t) 13 0 (6 + k) 0).1 11 k 6 = p := by
      show a.1 11 k 6 = _
      omega
    refine azb rfl hk (azb (j := p) e6 (by omega) (cab (xlabel labX) ?_))
    dsimp only
    rw [e6]
    have en : (pN r 0 0 36 t).1 26 0 k + (if (pN r 0 0 36 t).1 27 0 k = 0 then 0 else 128) = n := hn
    rw [en]
    refine cab (xrem (by show ir t; unfold ir; omega) (by unfold ir; omega) (by unfold ir; omega) (by unfold ir; omega)) (stNb ?_)
    have es : (rem (pN (pN a 0 0 8 t) 13 0 (6 + k) 0) 2 p n) = pN (rem (pN a 0 0 8 t) 2 p n) 13 0 (6 + k) 0 := rfl
    rw [es]
    have e8 : (pN (pN (rem (pN a 0 0 8 t) 2 p n) 13 0 (6 + k) 0) 4 p 7 (-1)).1 0 0 8 = t := rfl
    have e4 : (pN (pN (rem (pN a 0 0 8 t) 2 p n) 13 0 (6 + k) 0) 4 p 7 (-1)).1 4 p 4 = r.1 5 0 (p / 2) := by
      rw [pN_ne (by omega)]
      exact p11
    rw [e8, e4]
    refine cab (xset (s := 6 + k) (by omega) (by omega)) ?_
    rw [ha2]
    exact rgb (by have := q8.1; have := q8.2.1; omega) hR
  have sY : ∀ R, (if a2.1 4 p 8 ≤ 0 then some r2 else di_Y_choose p r2) = R → di_Y_moved k (pN r 0 0 36 t) = R := by
    intro R hR
    refine ymoved lab0 hk R (fun n2 hn2 => ?_) (by show ir (r.1 24 0 k); unfold ir; omega)
    have en : n2 = n := hn2.trans hn
    rw [en]
    have e28 : (pN r 0 0 36 t).1 28 0 k = p := hp
    rw [e28]
    refine itn (by show ¬ r.1 24 0 k = 3; omega) (cab (ynote (by show 0 ≤ r.1 0 0 38 ∧ r.1 0 0 38 < 2147483648; omega) (by show ir t; unfold ir; omega) (by unfold ir; omega) (by unfold ir; omega) (by unfold ir; omega)) (stNb (nnb (by omega) (azb (j := p / 2) (by omega) (by omega) (stNb (stNb (stNb ?_)))))))
    have et : (pN (nt (pN r 0 0 36 t) 2 p n) 24 0 k 3).1 0 0 36 = t := rfl
    have e5 : (pN (nt (pN r 0 0 36 t) 2 p n) 24 0 k 3).1 5 0 (p / 2) = r.1 5 0 (p / 2) := rfl
    rw [et, e5]
    have e37b : (pN (pN (nt (pN r 0 0 36 t) 2 p n) 24 0 k 3) 29 0 k (t + r.1 5 0 (p / 2))).1 0 0 37 = (nt (pN r 0 0 36 t) 2 p n).1 0 0 37 := rfl
    rw [e37b, hr2]
    refine cab yq ?_
    dsimp only
    exact rgb (by have := q8.1; have := q8.2.1; omega) hR
  by_cases c : a2.1 4 p 8 ≤ 0
  · exact ⟨a2, r2, sX _ (itp c rfl), sY _ (itp c rfl), H2.mono (by omega), r235⟩
  · obtain ⟨a3, r3, g1, g2, H3, fr3⟩ := choose_r H2 (by omega) hp2 a47 (by omega)
    exact ⟨a3, r3, sX _ (itn c (cab g1 rfl)), sY _ (itn c g2), H3.mono (by omega), by rw [fr3.2 35 (by decide)]; exact r235⟩
end HAPPEN
