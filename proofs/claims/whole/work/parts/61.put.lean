/-! ===== put ===== -/
section PUT
variable {B : Int} {a r : MemI} {k : Nat} {v : Int}
theorem yend {z : MemI} (hk : k < 64) (hf : r.1 0 0 9 ≤ 6) (L : rLab a r k) (h27 : z.1 27 = r.1 27) (h25 : z.1 25 = r.1 25) (h9 : z.1 9 = r.1 9) (h10 : z.1 10 = r.1 10) : di_Y_endOf k z = some (a.1 11 k 5, z) := by
  unfold rLab at L
  have h5 := L.2.2.2.2.2.2.2.2.2.2
  refine azb rfl hk ?_
  rw [h27, h25, h9, h10]
  refine rgb (by omega) ?_
  by_cases c : r.1 27 0 k = 0
  · rw [if_pos c] at h5
    refine itp c (azb rfl hk (azb (j := (r.1 25 0 k).toNat) (by omega) (by omega) ?_))
    rw [h5]
  · rw [if_neg c] at h5
    refine itn c (azb rfl hk (azb (j := (r.1 25 0 k).toNat) (by omega) (by omega) ?_))
    rw [h5]
theorem ylose (hk : k < 64) {f : Nat} (hf : r.1 25 0 k = f) (hf6 : f < 6) : di_Y_lose k r = some (pN (pN r 24 0 k 0) 23 0 (4 * f + 2) (r.1 23 0 (4 * f + 2) + 1)) := by
  refine azb rfl hk (stNb (azb rfl hk ?_))
  have e : (pN r 24 0 k 0).1 25 0 k = f := hf
  rw [e]
  exact azb (j := 4 * f + 2) (by omega) (by omega) (azb (j := 4 * f + 2) (by omega) (by omega) (stNb rfl))
/-- a list that lacks a flow has room -/
theorem list_room {h p f : Nat} (H : Rel B h a r) (hp : (p : Int) < 2 * r.1 0 0 0) (hf : f < 6) (hno : ∀ i : Nat, (i : Int) < a.1 4 p 9 → a.1 6 p i ≠ f) : a.1 4 p 9 < 6 := by
  have hG := H.G
  unfold rG at hG
  have hLL := H.L hp
  have x5 := hLL.2.2.2.2.1
  have x1 := hLL.1
  have en := cnt_enum (q := fun i => (a.1 6 p i).toNat) (T := fun _ => true) (m := 6) (n := (a.1 4 p 9).toNat) (w := fun g => (List.range (a.1 4 p 9).toNat).any fun i => (a.1 6 p i).toNat == g) (fun i hi => by
    have := x5 i (by omega)
    show (a.1 6 p i).toNat < 6
    omega) (fun i j hi hj e => by
    have e2 : (a.1 6 p i).toNat = (a.1 6 p j).toNat := e
    have y1 := x5 i (by omega)
    have y2 := x5 j (by omega)
    exact rL_inj hLL (by omega) (by omega) (by omega)) (fun g _ => by
    simp [List.any_eq_true])
  rw [cnt_all] at en
  have nf : ((List.range (a.1 4 p 9).toNat).any fun i => (a.1 6 p i).toNat == f) = false := by
    cases q : ((List.range (a.1 4 p 9).toNat).any fun i => (a.1 6 p i).toNat == f) with
    | false => rfl
    | true =>
      obtain ⟨i, hi, e⟩ := List.any_eq_true.mp q
      have hi2 := List.mem_range.mp hi
      have e2 : (a.1 6 p i).toNat = f := by simpa using e
      have y := x5 i (by omega)
      exact absurd (by omega) (hno i (by omega))
  have ad := cnt_add (q := fun g => (List.range (a.1 4 p 9).toNat).any fun i => (a.1 6 p i).toNat == g) (w := fun g => (g == f) || ((List.range (a.1 4 p 9).toNat).any fun i => (a.1 6 p i).toNat == g)) (j := f) nf (by simp) (fun g hg => by simp [hg]) (m := 6) hf
  have le := cnt_le (fun g => (g == f) || ((List.range (a.1 4 p 9).toNat).any fun i => (a.1 6 p i).toNat == g)) 6
  omega
theorem put_r (H : Rel B k a r) (hk : k < 64) (hB : B < 700000000) (hv : ir v) : ∃ a1 r1, di_X_put k v a = some a1 ∧ di_Y_put k v r = some r1 ∧ Rel (B + 260) 64 a1 r1 ∧ frY r r1 := by
  have hG := H.G
  unfold rG at hG
  have hand := H.P.2 hk
  have lab := hand.2.2
  have lab2 := lab
  unfold rLab at lab2
  obtain ⟨f, hf⟩ : ∃ f : Nat, r.1 25 0 k = f := ⟨(r.1 25 0 k).toNat, by omega⟩
  have hf6 : f < 6 := by omega
  have hfa : a.1 11 k 2 = f := by omega
  have hfa0 : (pN a 11 k 0 0).1 11 k 2 = f := by rw [pN_ne (by omega)]; exact hfa
  have F := (H.F f (by omega)).1
  have en : ir (a.1 11 k 5) := by
    have h5 := lab2.2.2.2.2.2.2.2.2.2.2
    rw [hf, show ((f : Int)).toNat = f from rfl] at h5
    unfold ir
    split at h5 <;> omega
  obtain ⟨w, hw, wX, wY⟩ := way_r H hv en
  have eY := yend (z := r) hk (by omega) lab rfl rfl rfl rfl
  have lost := gone_rel (B := B) H hk (Or.inr ⟨rfl, rfl⟩) hf
  have yl := ylose (r := r) hk hf hf6
  rcases hw with rfl | ⟨hw0, hw1⟩
  · -- no way
    refine ⟨pN (pN a 11 k 0 0) 9 f 12 (a.1 9 f 12 + 1), _, rgb (by omega) (itn (by omega) (azb rfl hk (cab wX (rgb (by omega) (itp rfl (bz0b (stNb (azb (j := f) hfa0 hf6 (stNb rfl))))))))), cab eY (cab wY (rgb (by omega) (itp rfl (cab yl rfl)))), lost.mono (by omega), (frY_pN (by omega)).tr (frY_pN (by omega))⟩
  obtain ⟨p, rfl⟩ : ∃ p : Nat, w = p := ⟨w.toNat, by omega⟩
  have hQ := H.Q hw1
  have hSh := H.S p hw1
  have yq := yq_all H hw1
  have h8q := hQ.2.1
  have h0q := hQ.1
  by_cases c : a.1 4 p 8 < a.1 4 p 6
  · -- it is put into the queue
    obtain ⟨N, hN⟩ : ∃ N : Nat, a.1 4 p 8 = N := ⟨(a.1 4 p 8).toNat, by have := hQ.1; omega⟩
    have yqf := yq_of H hw1 (f := (f : Int)) (by omega)
    have hqn := qn_pos H hw1 (f := f)
    have hle : qn a p f ≤ 8 := by
      have h8 := cnt_le (qx a p f) (a.1 4 p 8).toNat
      unfold qn
      omega
    have xqf : di_X_queuedOf p (f : Int) (pN a 11 k 6 p) = some ((qn a p f : Int), pN a 11 k 6 p) := by
      have e11 : ∀ j, (pN a 11 k 6 p).1 11 j 2 = a.1 11 j 2 := fun j => by rw [pN_ne (by omega)]
      have := xqueued (a := pN a 11 k 6 p) (p := p) (N := N) (f := (f : Int)) hN (by omega) (fun i hi => by
        have x := hQ.2.2.1 i (by omega)
        have y := rQ_of H.P hQ (i := i) (by omega)
        refine ⟨x.1, x.2.1, ?_⟩
        rw [e11]
        have e5 : (pN a 11 k 6 p).1 5 p i = a.1 5 p i := rfl
        rw [e5]
        unfold ir
        omega) (by unfold ir; omega)
      rw [this]
      have ec : cnt (qx (pN a 11 k 6 p) p (f : Int)) N = qn a p f := by
        unfold qn
        rw [hN]
        refine cnt_congr fun i hi => ?_
        unfold qx
        rw [e11]
        rfl
      rw [ec]
    have n24 : ¬ r.1 24 0 k = 1 := by omega
    have preX : ∀ R, ((rg (qn a p f : Int)).bind fun _ => if (qn a p f : Int) = (0 : Int) then (di_P_append p ((pN a 11 k 6 p).1 11 k 2) (pN a 11 k 6 p)).bind fun z16 => (aiz 8 (z16.1 4 p 8)).bind fun j17 => stN (pN z16 5 p j17 (k : Int)) fun z18 => stN (pN z18 4 p 8 ((z18.1 4 p 8) + (1 : Int))) fun z19 => (rg (z19.1 4 p 7)).bind fun _ => if (z19.1 4 p 7) = (-1 : Int) then (di_X_choose p z19).bind fun z20 => some z20 else some z19 else (aiz 8 ((pN a 11 k 6 p).1 4 p 8)).bind fun j12 => stN (pN (pN a 11 k 6 p) 5 p j12 (k : Int)) fun z13 => stN (pN z13 4 p 8 ((z13.1 4 p 8) + (1 : Int))) fun z14 => (rg (z14.1 4 p 7)).bind fun _ => if (z14.1 4 p 7) = (-1 : Int) then (di_X_choose p z14).bind fun z15 => some z15 else some z14) = R → di_X_put k v a = R := by
      intro R hR
      refine rgb (by omega) (itn (by omega) (azb rfl hk (cab wX ?_)))
      dsimp only
      refine rgb (by omega) (itn (by omega) (azb rfl (by omega) (azb rfl (by omega) (rgb (by omega) (rgb (by omega) (itp c (azb rfl (by omega) (stNb ?_))))))))
      have e2 : (pN a 11 k 6 p).1 11 k 2 = f := by rw [pN_ne (by omega)]; exact hfa
      exact cab (v := ((qn a p f : Int), pN a 11 k 6 p)) (by rw [e2]; exact xqf) hR
    have o7 := H.O hw1
    have hon : -1 ≤ a.1 4 p 7 ∧ a.1 4 p 7 < 64 := by
      rcases o7 with x | x <;> omega
    by_cases c2 : qn a p f = 0
    · -- the flow comes new into the list
      have hno : ∀ i : Nat, (i : Int) < a.1 4 p 9 → a.1 6 p i ≠ f := fun i hi e => by
        have := hqn.mpr ⟨i, hi, e⟩
        omega
      have hroom := list_room H hw1 hf6 hno
      obtain ⟨m, hm⟩ : ∃ m : Nat, a.1 4 p 9 = m := ⟨(a.1 4 p 9).toNat, by have := (H.L hw1).1; omega⟩
      have ap : di_P_append p ((pN a 11 k 6 p).1 11 k 2) (pN a 11 k 6 p) = some (pN (pN (pN a 11 k 6 p) 6 p m f) 4 p 9 ((m : Int) + 1)) := by
        have e2 : (pN a 11 k 6 p).1 11 k 2 = f := by rw [pN_ne (by omega)]; exact hfa
        have e9 : (pN a 11 k 6 p).1 4 p 9 = m := hm
        rw [e2]
        refine rgb (by omega) (itn (by omega) (azb (j := m) e9 (by omega) (stNb (stNb ?_))))
        have e9b : (pN (pN a 11 k 6 p) 6 p m f).1 4 p 9 = m := hm
        rw [e9b]
      generalize ha1 : pN (pN (pN (pN (pN a 11 k 6 p) 6 p m f) 4 p 9 ((m : Int) + 1)) 5 p N k) 4 p 8 ((N : Int) + 1) = a1
      generalize hr1 : pN (pN (pN (pN (pN (pN (pN (pN r 0 0 37 (r.1 0 0 37 + 1)) 31 0 (6 * p + f) (r.1 0 0 37 + 1)) 32 0 (6 * p + f) 0) 33 0 (6 * p + f) 0) 24 0 k 1) 28 0 k p) 0 0 37 (r.1 0 0 37 + 1 + 1)) 30 0 k (r.1 0 0 37 + 1 + 1) = r1
      have b0 : ∀ q, q ≠ 4 → q ≠ 5 → q ≠ 6 → q ≠ 11 → a1.1 q = a.1 q := fun q h4 h5 h6 h11 => by
        funext i j
        rw [← ha1, pN_ne (fun x => h4 x.1), pN_ne (fun x => h5 x.1), pN_ne (fun x => h4 x.1), pN_ne (fun x => h6 x.1), pN_ne (fun x => h11 x.1)]
      have b4 : ∀ j, j ≠ 8 → j ≠ 9 → a1.1 4 p j = a.1 4 p j := fun j h8 h9 => by
        rw [← ha1, pN_ne (by omega), pN_ne (by omega), pN_ne (by omega), pN_ne (by omega), pN_ne (by omega)]
      have b48 : a1.1 4 p 8 = (N : Int) + 1 := by rw [← ha1, pN_at]
      have w37 : r1.1 0 0 37 = r.1 0 0 37 + 1 + 1 := by rw [← hr1, pN_ne (by omega), pN_at]
      have w0 : ∀ q, q ≠ 0 → q ≠ 24 → q ≠ 28 → q ≠ 30 → q ≠ 31 → q ≠ 32 → q ≠ 33 → r1.1 q = r.1 q := fun q h0 h24 h28 h30 h31 h32 h33 => by
        funext i j
        rw [← hr1, pN_ne (fun x => h30 x.1), pN_ne (fun x => h0 x.1), pN_ne (fun x => h28 x.1), pN_ne (fun x => h24 x.1), pN_ne (fun x => h33 x.1), pN_ne (fun x => h32 x.1), pN_ne (fun x => h31 x.1), pN_ne (fun x => h0 x.1)]
      have w24 : ∀ j, r1.1 24 0 j = if j = k then 1 else r.1 24 0 j := fun j => by
        rw [← hr1, pN_ne (by omega), pN_ne (by omega), pN_ne (by omega), pN_if]
        by_cases e : j = k
        · rw [if_pos e, if_pos ⟨rfl, rfl, e⟩]
        · rw [if_neg e, if_neg (fun x => e x.2.2), pN_ne (by omega), pN_ne (by omega), pN_ne (by omega), pN_ne (by omega)]
      have w28 : ∀ j, r1.1 28 0 j = if j = k then (p : Int) else r.1 28 0 j := fun j => by
        rw [← hr1, pN_ne (by omega), pN_ne (by omega), pN_if]
        by_cases e : j = k
        · rw [if_pos e, if_pos ⟨rfl, rfl, e⟩]
        · rw [if_neg e, if_neg (fun x => e x.2.2), pN_ne (by omega), pN_ne (by omega), pN_ne (by omega), pN_ne (by omega), pN_ne (by omega)]
      have w30 : ∀ j, r1.1 30 0 j = if j = k then r.1 0 0 37 + 1 + 1 else r.1 30 0 j := fun j => by
        rw [← hr1, pN_if]
        by_cases e : j = k
        · rw [if_pos e, if_pos ⟨rfl, rfl, e⟩]
        · rw [if_neg e, if_neg (fun x => e x.2.2), pN_ne (by omega), pN_ne (by omega), pN_ne (by omega), pN_ne (by omega), pN_ne (by omega), pN_ne (by omega), pN_ne (by omega)]
      have w31 : ∀ j, r1.1 31 0 j = if j = 6 * p + f then r.1 0 0 37 + 1 else r.1 31 0 j := fun j => by
        rw [← hr1, pN_ne (by omega), pN_ne (by omega), pN_ne (by omega), pN_ne (by omega), pN_ne (by omega), pN_ne (by omega), pN_if]
        by_cases e : j = 6 * p + f
        · rw [if_pos e, if_pos ⟨rfl, rfl, e⟩]
        · rw [if_neg e, if_neg (fun x => e x.2.2), pN_ne (by omega)]
      have w32 : ∀ j, r1.1 32 0 j = if j = 6 * p + f then 0 else r.1 32 0 j := fun j => by
        rw [← hr1, pN_ne (by omega), pN_ne (by omega), pN_ne (by omega), pN_ne (by omega), pN_ne (by omega), pN_if]
        by_cases e : j = 6 * p + f
        · rw [if_pos e, if_pos ⟨rfl, rfl, e⟩]
        · rw [if_neg e, if_neg (fun x => e x.2.2), pN_ne (by omega), pN_ne (by omega)]
      have w33 : ∀ j, r1.1 33 0 j = if j = 6 * p + f then 0 else r.1 33 0 j := fun j => by
        rw [← hr1, pN_ne (by omega), pN_ne (by omega), pN_ne (by omega), pN_ne (by omega), pN_if]
        by_cases e : j = 6 * p + f
        · rw [if_pos e, if_pos ⟨rfl, rfl, e⟩]
        · rw [if_neg e, if_neg (fun x => e x.2.2), pN_ne (by omega), pN_ne (by omega), pN_ne (by omega)]
      have w1 : ∀ j, j ≠ 37 → r1.1 0 0 j = r.1 0 0 j := fun j hj => by
        rw [← hr1, pN_ne (by omega), pN_ne (by omega), pN_ne (by omega), pN_ne (by omega), pN_ne (by omega), pN_ne (by omega), pN_ne (by omega), pN_ne (by omega)]
      have g3 : ∀ (x y : Int) (g : Nat), (if 6 * p + g = 6 * p + f then x else y) = if g = f then x else y := fun x y g => by
        by_cases e : g = f
        · rw [if_pos e, if_pos (by omega)]
        · rw [if_neg e, if_neg (by omega)]
      have H1 : Rel (B + 2) 64 a1 r1 := by
        refine enq_rel H hk (by omega) hw1 hN (by omega) b0 (by rw [← ha1]; rfl) (fun q hq => ⟨?_, ?_, ?_⟩) b4 b48 (fun i => ?_) (fun j i => ?_) w0 w24 w28 (fun j => by rw [w30, w37]) (fun q g hq hg => ?_) w1 ⟨by omega, by omega⟩ (by rw [← hr1]; rfl) ?_
        · funext j
          rw [← ha1, pN_ne (by omega), pN_ne (by omega), pN_ne (by omega), pN_ne (by omega), pN_ne (by omega)]
        · funext j
          rw [← ha1, pN_ne (by omega), pN_ne (by omega), pN_ne (by omega), pN_ne (by omega), pN_ne (by omega)]
        · funext j
          rw [← ha1, pN_ne (by omega), pN_ne (by omega), pN_ne (by omega), pN_ne (by omega), pN_ne (by omega)]
        · rw [← ha1, pN_ne (by omega), pN_if]
          by_cases e : i = N
          · rw [if_pos e, if_pos ⟨rfl, rfl, e⟩]
          · rw [if_neg e, if_neg (fun x => e x.2.2), pN_ne (by omega), pN_ne (by omega), pN_ne (by omega)]
        · rw [← ha1, pN_ne (by omega), pN_ne (by omega), pN_ne (by omega), pN_ne (by omega), pN_if]
          by_cases e : j = k ∧ i = 6
          · rw [if_pos e, if_pos ⟨rfl, e.1, e.2⟩]
          · rw [if_neg e, if_neg (fun x => e x.2)]
        · rw [w31, w32, w33, if_neg (by omega), if_neg (by omega), if_neg (by omega)]
          exact ⟨rfl, rfl, rfl⟩
        · refine newL (f := f) hk (H.L hw1) n24 hf (by omega) hno (by omega) hm (by omega) (by omega) ?_ (b4 10 (by decide) (by decide)) (fun i => ?_) (b0 7 (by decide) (by decide) (by decide) (by decide)) w24 w28 (w0 25 (by decide) (by decide) (by decide) (by decide) (by decide) (by decide) (by decide)) (fun g => by rw [w31, g3]) (fun g => by rw [w32, g3]) (fun g => by rw [w33, g3]) (w1 9 (by decide)) (by omega)
          · rw [← ha1, pN_ne (by omega), pN_ne (by omega), pN_at]
          · rw [← ha1, pN_ne (by omega), pN_ne (by omega), pN_ne (by omega), pN_if]
            by_cases e : i = m
            · rw [if_pos e, if_pos ⟨rfl, rfl, e⟩]
            · rw [if_neg e, if_neg (fun x => e x.2.2), pN_ne (by omega)]
      have fr1 : frY r r1 := ⟨fun q h1 h2 => w0 q (by omega) (by omega) (by omega) (by omega) (by omega) (by omega) (by omega), w1⟩
      have hp1 : (p : Int) < 2 * r1.1 0 0 0 := by rw [w1 0 (by decide)]; exact hw1
      have yon1 := yon_r H1 hp1
      have b47 := b4 7 (by decide) (by decide)
      have sX : ∀ R, (if a1.1 4 p 7 = -1 then (di_X_choose p a1).bind fun z20 => some z20 else some a1) = R → di_X_put k v a = R := by
        intro R hR
        refine preX _ (rgb (by omega) (itp (by omega) (cab ap ?_)))
        have e8 : (pN (pN (pN a 11 k 6 p) 6 p m f) 4 p 9 ((m : Int) + 1)).1 4 p 8 = N := by rw [pN_ne (by omega)]; exact hN
        refine azb e8 (by omega) (stNb (stNb ?_))
        have e8b : (pN (pN (pN (pN a 11 k 6 p) 6 p m f) 4 p 9 ((m : Int) + 1)) 5 p N k).1 4 p 8 = N := e8
        rw [e8b, ha1]
        exact rgb (by omega) hR
      have sY : ∀ R, (if a1.1 4 p 7 = -1 then (di_Y_choose p r1).bind fun z35 => some z35 else some r1) = R → di_Y_put k v r = R := by
        intro R hR
        refine cab eY (cab wY ?_)
        dsimp only
        refine rgb (by omega) (itn (by omega) (cab yq ?_))
        dsimp only
        refine azb rfl (by omega) (rgb (by omega) (rgb (by omega) (itp (by omega) (azb rfl hk (stWb (azb rfl hk ?_))))))
        rw [hf]
        refine cab yqf ?_
        dsimp only
        refine rgb (by omega) (itp (by omega) (stNb ?_))
        refine azb (j := 6 * p + f) (by omega) (by omega) (stNb (azb (j := 6 * p + f) (by omega) (by omega) (stNb (bz0b (azb (j := 6 * p + f) (by omega) (by omega) (stNb (azb rfl hk (stNb (azb rfl hk (stNb (stNb (azb rfl hk (stNb ?_)))))))))))))
        have e37 : (pN (pN (pN (pN (pN (pN r 0 0 37 (r.1 0 0 37 + 1)) 31 0 (6 * p + f) (r.1 0 0 37 + 1)) 32 0 (6 * p + f) 0) 33 0 (6 * p + f) 0) 24 0 k 1) 28 0 k p).1 0 0 37 = r.1 0 0 37 + 1 := rfl
        rw [e37, hr1]
        refine cab yon1 ?_
        dsimp only
        exact rgb (by omega) hR
      by_cases c3 : a1.1 4 p 7 = -1
      · obtain ⟨a2, r2, g1, g2, H2, fr2⟩ := choose_r H1 (by omega) hp1 c3 (by omega)
        exact ⟨a2, r2, sX _ (itp c3 (cab g1 rfl)), sY _ (itp c3 (cab g2 rfl)), H2.mono (by omega), fr1.tr fr2⟩
      · exact ⟨a1, r1, sX _ (itn c3 rfl), sY _ (itn c3 rfl), H1.mono (by omega), fr1⟩
    · -- the flow stands in the list
      obtain hlist := hqn.mp (by omega)
      generalize ha1 : pN (pN (pN a 11 k 6 p) 5 p N k) 4 p 8 ((N : Int) + 1) = a1
      generalize hr1 : pN (pN (pN (pN r 24 0 k 1) 28 0 k p) 0 0 37 (r.1 0 0 37 + 1)) 30 0 k (r.1 0 0 37 + 1) = r1
      have b0 : ∀ q, q ≠ 4 → q ≠ 5 → q ≠ 6 → q ≠ 11 → a1.1 q = a.1 q := fun q h4 h5 h6 h11 => by
        funext i j
        rw [← ha1, pN_ne (fun x => h4 x.1), pN_ne (fun x => h5 x.1), pN_ne (fun x => h11 x.1)]
      have b4 : ∀ j, j ≠ 8 → a1.1 4 p j = a.1 4 p j := fun j h8 => by
        rw [← ha1, pN_ne (by omega), pN_ne (by omega), pN_ne (by omega)]
      have b48 : a1.1 4 p 8 = (N : Int) + 1 := by rw [← ha1, pN_at]
      have w37 : r1.1 0 0 37 = r.1 0 0 37 + 1 := by rw [← hr1, pN_ne (by omega), pN_at]
      have w0 : ∀ q, q ≠ 0 → q ≠ 24 → q ≠ 28 → q ≠ 30 → r1.1 q = r.1 q := fun q h0 h24 h28 h30 => by
        funext i j
        rw [← hr1, pN_ne (fun x => h30 x.1), pN_ne (fun x => h0 x.1), pN_ne (fun x => h28 x.1), pN_ne (fun x => h24 x.1)]
      have w24 : ∀ j, r1.1 24 0 j = if j = k then 1 else r.1 24 0 j := fun j => by
        rw [← hr1, pN_ne (by omega), pN_ne (by omega), pN_ne (by omega), pN_if]
        by_cases e : j = k
        · rw [if_pos e, if_pos ⟨rfl, rfl, e⟩]
        · rw [if_neg e, if_neg (fun x => e x.2.2)]
      have w28 : ∀ j, r1.1 28 0 j = if j = k then (p : Int) else r.1 28 0 j := fun j => by
        rw [← hr1, pN_ne (by omega), pN_ne (by omega), pN_if]
        by_cases e : j = k
        · rw [if_pos e, if_pos ⟨rfl, rfl, e⟩]
        · rw [if_neg e, if_neg (fun x => e x.2.2), pN_ne (by omega)]
      have w30 : ∀ j, r1.1 30 0 j = if j = k then r.1 0 0 37 + 1 else r.1 30 0 j := fun j => by
        rw [← hr1, pN_if]
        by_cases e : j = k
        · rw [if_pos e, if_pos ⟨rfl, rfl, e⟩]
        · rw [if_neg e, if_neg (fun x => e x.2.2), pN_ne (by omega), pN_ne (by omega), pN_ne (by omega)]
      have w1 : ∀ j, j ≠ 37 → r1.1 0 0 j = r.1 0 0 j := fun j hj => by
        rw [← hr1, pN_ne (by omega), pN_ne (by omega), pN_ne (by omega), pN_ne (by omega)]
      have h31 := w0 31 (by decide) (by decide) (by decide) (by decide)
      have h32 := w0 32 (by decide) (by decide) (by decide) (by decide)
      have h33 := w0 33 (by decide) (by decide) (by decide) (by decide)
      have H1 : Rel (B + 2) 64 a1 r1 := by
        refine enq_rel H hk (by omega) hw1 hN (by omega) b0 (by rw [← ha1]; rfl) (fun q hq => ⟨?_, ?_, ?_⟩) (fun j h8 _ => b4 j h8) b48 (fun i => ?_) (fun j i => ?_) (fun q h0 h24 h28 h30 _ _ _ => w0 q h0 h24 h28 h30) w24 w28 (fun j => by rw [w30, w37]) (fun q g hq hg => by rw [h31, h32, h33]; exact ⟨rfl, rfl, rfl⟩) w1 ⟨by omega, by omega⟩ (by rw [← hr1]; rfl) ?_
        · funext j
          rw [← ha1, pN_ne (by omega), pN_ne (by omega), pN_ne (by omega)]
        · funext j
          rw [← ha1, pN_ne (by omega), pN_ne (by omega), pN_ne (by omega)]
        · rw [← ha1]
          rfl
        · rw [← ha1, pN_ne (by omega), pN_if]
          by_cases e : i = N
          · rw [if_pos e, if_pos ⟨rfl, rfl, e⟩]
          · rw [if_neg e, if_neg (fun x => e x.2.2), pN_ne (by omega)]
        · rw [← ha1, pN_ne (by omega), pN_ne (by omega), pN_if]
          by_cases e : j = k ∧ i = 6
          · rw [if_pos e, if_pos ⟨rfl, e.1, e.2⟩]
          · rw [if_neg e, if_neg (fun x => e x.2)]
        · exact addL (f := f) hk (H.L hw1) n24 hf hlist (by omega) (b4 9 (by decide)) (b4 10 (by decide)) (by rw [← ha1]; rfl) (b0 7 (by decide) (by decide) (by decide) (by decide)) w24 w28 (w0 25 (by decide) (by decide) (by decide) (by decide)) h31 h32 h33 (w1 9 (by decide)) (by omega)
      have fr1 : frY r r1 := ⟨fun q h1 h2 => w0 q (by omega) (by omega) (by omega) (by omega), w1⟩
      have hp1 : (p : Int) < 2 * r1.1 0 0 0 := by rw [w1 0 (by decide)]; exact hw1
      have yon1 := yon_r H1 hp1
      have b47 := b4 7 (by decide)
      have sX : ∀ R, (if a1.1 4 p 7 = -1 then (di_X_choose p a1).bind fun z20 => some z20 else some a1) = R → di_X_put k v a = R := by
        intro R hR
        refine preX _ (rgb (by omega) (itn (by omega) ?_))
        have e8 : (pN a 11 k 6 p).1 4 p 8 = N := hN
        refine azb e8 (by omega) (stNb (stNb ?_))
        have e8b : (pN (pN a 11 k 6 p) 5 p N k).1 4 p 8 = N := hN
        rw [e8b, ha1]
        exact rgb (by omega) hR
      have sY : ∀ R, (if a1.1 4 p 7 = -1 then (di_Y_choose p r1).bind fun z35 => some z35 else some r1) = R → di_Y_put k v r = R := by
        intro R hR
        refine cab eY (cab wY ?_)
        dsimp only
        refine rgb (by omega) (itn (by omega) (cab yq ?_))
        dsimp only
        refine azb rfl (by omega) (rgb (by omega) (rgb (by omega) (itp (by omega) (azb rfl hk (stWb (azb rfl hk ?_))))))
        rw [hf]
        refine cab yqf ?_
        dsimp only
        refine rgb (by omega) (itn (by omega) (azb rfl hk (stNb (azb rfl hk (stNb (stNb (azb rfl hk (stNb ?_))))))))
        have e37 : (pN (pN r 24 0 k 1) 28 0 k p).1 0 0 37 = r.1 0 0 37 := rfl
        rw [e37, hr1]
        refine cab yon1 ?_
        dsimp only
        exact rgb (by omega) hR
      by_cases c3 : a1.1 4 p 7 = -1
      · obtain ⟨a2, r2, g1, g2, H2, fr2⟩ := choose_r H1 (by omega) hp1 c3 (by omega)
        exact ⟨a2, r2, sX _ (itp c3 (cab g1 rfl)), sY _ (itp c3 (cab g2 rfl)), H2.mono (by omega), fr1.tr fr2⟩
      · exact ⟨a1, r1, sX _ (itn c3 rfl), sY _ (itn c3 rfl), H1.mono (by omega), fr1⟩
  · -- the queue is full
    refine ⟨pN (pN a 11 k 0 0) 9 f 12 (a.1 9 f 12 + 1), _, rgb (by omega) (itn (by omega) (azb rfl hk (cab wX ?_))), cab eY (cab wY ?_), lost.mono (by omega), (frY_pN (by omega)).tr (frY_pN (by omega))⟩
    · dsimp only
      exact rgb (by omega) (itn (by omega) (azb rfl (by omega) (azb rfl (by omega) (rgb (by omega) (rgb (by omega) (itn c (bz0b (stNb (azb (j := f) hfa0 hf6 (stNb rfl))))))))))
    · dsimp only
      refine rgb (by omega) (itn (by omega) (cab yq ?_))
      dsimp only
      exact azb rfl (by omega) (rgb (by omega) (rgb (by omega) (itn (by omega) (cab yl rfl))))
end PUT
