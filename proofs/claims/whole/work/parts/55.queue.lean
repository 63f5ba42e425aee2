/-! ===== the first of a port: which flow, which packet ===== -/
section QUEUE
variable {B : Int} {h : Nat} {a r : MemI} {p : Nat}
theorem rL_inj (H : rL a r p) {i j : Nat} (hi : (i : Int) < a.1 4 p 9) (hj : (j : Int) < a.1 4 p 9) (e : a.1 6 p i = a.1 6 p j) : i = j := by
  by_cases c : i < j
  · have x := H.2.2.2.2.2.1 i j c hj
    rw [e] at x
    omega
  · by_cases d : j < i
    · have x := H.2.2.2.2.2.1 j i d hi
      rw [e] at x
      omega
    · omega
theorem ylead_l (H : Rel B h a r) (hB : B < 1000000000) (hp : (p : Int) < 2 * r.1 0 0 0) {L : Nat} (hL : a.1 6 p 0 = L) (hm : 0 < a.1 4 p 9) {K : Int → MemI → Option (Int × MemI)} :
    ∀ (m j n : Nat) (w : Int), (j : Int) + m = r.1 0 0 9 → m < n → ((w = -1 ∧ ∀ i : Nat, (i : Int) < a.1 4 p 9 → (j : Int) ≤ a.1 6 p i) ∨ (∃ i : Nat, (i : Int) < a.1 4 p 9 ∧ w = a.1 6 p i ∧ w < j ∧ ∀ i2 : Nat, (i2 : Int) < a.1 4 p 9 → a.1 6 p i2 < j → i ≤ i2)) → di_Y_leader_4 K n p w j r = K L r := by
  have hG := H.G
  unfold rG at hG
  have hLL := H.L hp
  intro m
  induction m with
  | zero =>
    intro j n w hj hn hw
    obtain ⟨n, rfl⟩ : ∃ q, n = q + 1 := ⟨n - 1, by omega⟩
    rw [di_Y_leader_4]
    refine rgb (by omega) (rgb (by omega) (itp (by omega) ?_))
    have x0 := hLL.2.2.2.2.1 0 (by omega)
    rcases hw with hw | ⟨i, hi, e, hlt, hmin⟩
    · have := hw.2 0 (by omega)
      omega
    · have := hmin 0 (by omega) (by omega)
      have e0 : i = 0 := by omega
      subst e0
      rw [e, hL]
  | succ m ih =>
    intro j n w hj hn hw
    obtain ⟨n, rfl⟩ : ∃ q, n = q + 1 := ⟨n - 1, by omega⟩
    have hq := yq_of H hp (f := (j : Int)) (by omega)
    have hqp := qn_pos H hp (f := j)
    have hle : qn a p j ≤ 8 := by
      have h8 := cnt_le (qx a p j) (a.1 4 p 8).toNat
      have h9 := (H.Q hp).2.1
      unfold qn
      omega
    have step : ∀ w2 : Int, ((w2 = -1 ∧ ∀ i : Nat, (i : Int) < a.1 4 p 9 → ((j + 1 : Nat) : Int) ≤ a.1 6 p i) ∨ (∃ i : Nat, (i : Int) < a.1 4 p 9 ∧ w2 = a.1 6 p i ∧ w2 < ((j + 1 : Nat) : Int) ∧ ∀ i2 : Nat, (i2 : Int) < a.1 4 p 9 → a.1 6 p i2 < ((j + 1 : Nat) : Int) → i ≤ i2)) → di_Y_leader_4 K n p w2 ((j : Int) + 1) r = K L r := fun w2 h => ih (j + 1) n w2 (by omega) (by omega) h
    rw [di_Y_leader_4]
    refine rgb (by omega) (rgb (by omega) (itn (by omega) (cab hq (rgb (by dsimp only; omega) ?_))))
    dsimp only
    by_cases c1 : qn a p j = 0
    · have no : ∀ i : Nat, (i : Int) < a.1 4 p 9 → a.1 6 p i ≠ j := fun i hi e => by
        have := hqp.mpr ⟨i, hi, e⟩
        omega
      refine itp (by omega) (step w ?_)
      rcases hw with hw | ⟨i, hi, e, hlt, hmin⟩
      · exact Or.inl ⟨hw.1, fun i hi => by have := hw.2 i hi; have := no i hi; omega⟩
      · exact Or.inr ⟨i, hi, e, by omega, fun i2 hi2 hl2 => hmin i2 hi2 (by have := no i2 hi2; omega)⟩
    · obtain ⟨i0, hi0, e0⟩ := hqp.mp (by omega)
      refine itn (by omega) ?_
      rcases hw with hw | ⟨i, hi, e, hlt, hmin⟩
      · refine rgb (by omega) (itp hw.1 (step _ (Or.inr ⟨i0, hi0, e0.symm, by omega, fun i2 hi2 hl2 => ?_⟩)))
        have := hw.2 i2 hi2
        have e2 : a.1 6 p i2 = a.1 6 p i0 := by omega
        have := rL_inj hLL hi2 hi0 e2
        omega
      · have x := hLL.2.2.2.2.1 i hi
        have x0 := hLL.2.2.2.2.1 i0 hi0
        have f1 : (a.1 6 p i).toNat = w.toNat := by rw [e]
        have f0 : (a.1 6 p i0).toNat = j := by omega
        rw [f1] at x
        rw [f0] at x0
        have ne : i ≠ i0 := fun q => by
          subst q
          omega
        refine rgb (by omega) (itn (by omega) (azb (j := 6 * p + j) (by omega) (by omega) (azb (j := 6 * p + w.toNat) (by omega) (by omega) (rgb (by omega) (rgb (by omega) ?_)))))
        by_cases c2 : i < i0
        · have y := hLL.2.2.2.2.2.1 i i0 c2 hi0
          rw [f1, f0] at y
          refine itp (by omega) (step w (Or.inr ⟨i, hi, e, by omega, fun i2 hi2 hl2 => ?_⟩))
          by_cases c3 : a.1 6 p i2 < j
          · exact hmin i2 hi2 c3
          · have e2 : a.1 6 p i2 = a.1 6 p i0 := by omega
            have := rL_inj hLL hi2 hi0 e2
            omega
        · have y := hLL.2.2.2.2.2.1 i0 i (by omega) hi
          rw [f1, f0] at y
          refine itn (by omega) (step _ (Or.inr ⟨i0, hi0, e0.symm, by omega, fun i2 hi2 hl2 => ?_⟩))
          by_cases c3 : a.1 6 p i2 < j
          · have := hmin i2 hi2 c3
            omega
          · have e2 : a.1 6 p i2 = a.1 6 p i0 := by omega
            have := rL_inj hLL hi2 hi0 e2
            omega
theorem ylead (H : Rel B h a r) (hB : B < 1000000000) (hp : (p : Int) < 2 * r.1 0 0 0) {L : Nat} (hL : a.1 6 p 0 = L) (hm : 0 < a.1 4 p 9) : di_Y_leader p r = some ((L : Int), r) := by
  have hG := H.G
  unfold rG at hG
  have hLL := H.L hp
  exact ylead_l H hB hp hL hm (r.1 0 0 9).toNat 0 FU (-1) (by omega) (by have : FU = 200 := rfl; omega) (Or.inl ⟨rfl, fun i hi => (hLL.2.2.2.2.1 i hi).1⟩)
/-- the first place of a flow -/
theorem xplace_l {K : Int → MemI → Option (Int × MemI)} {N P f : Nat} (hN : a.1 4 p 8 = N) (hN8 : N ≤ 8) (hq : ∀ i : Nat, i < N → 0 ≤ a.1 5 p i ∧ a.1 5 p i < 64 ∧ ir (a.1 11 (a.1 5 p i).toNat 2)) (hf : f < 6) (hP : P < N) (h1 : a.1 11 (a.1 5 p P).toNat 2 = f) (h2 : ∀ i, i < P → a.1 11 (a.1 5 p i).toNat 2 ≠ f) :
    ∀ (m j n : Nat), j + m = P → m < n → di_X_firstPlaceOf_2 K n p f j a = K P a := by
  intro m
  induction m with
  | zero =>
    intro j n hj hn
    obtain ⟨n, rfl⟩ : ∃ q, n = q + 1 := ⟨n - 1, by omega⟩
    have e : j = P := by omega
    subst e
    rw [di_X_firstPlaceOf_2]
    refine rgb (by omega) (rgb (by omega) ?_)
    by_cases c : a.1 4 p 8 - 1 ≤ (j : Int)
    · exact itp c rfl
    · have x := hq j hP
      exact itn c (azb rfl (by omega) (azb (j := (a.1 5 p j).toNat) (by omega) (by omega) (rgb x.2.2 (rgb (by omega) (itp h1 rfl)))))
  | succ m ih =>
    intro j n hj hn
    obtain ⟨n, rfl⟩ : ∃ q, n = q + 1 := ⟨n - 1, by omega⟩
    have x := hq j (by omega)
    have ih := ih (j + 1) n (by omega) (by omega)
    rw [di_X_firstPlaceOf_2]
    exact rgb (by omega) (rgb (by omega) (itn (by omega) (azb rfl (by omega) (azb (j := (a.1 5 p j).toNat) (by omega) (by omega) (rgb x.2.2 (rgb (by omega) (itn (h2 j (by omega)) ih)))))))
/-- the reference's head: the packet of the flow with the least turn -/
theorem yhead_l {K : Int → MemI → Option (Int × MemI)} {f : Int} {k0 : Nat} (hs : ∀ k, k < 64 → ir (r.1 24 0 k)) (hp : ∀ k, k < 64 → r.1 24 0 k = 1 → ir (r.1 28 0 k) ∧ ir (r.1 25 0 k) ∧ ir (r.1 30 0 k)) (h1 : ir p) (h2 : ir f) (hk0 : k0 < 64) (e0 : r.1 24 0 k0 = 1 ∧ r.1 28 0 k0 = p ∧ r.1 25 0 k0 = f)
    (hmin : ∀ k, k < 64 → k ≠ k0 → r.1 24 0 k = 1 → r.1 28 0 k = p → r.1 25 0 k = f → r.1 30 0 k0 < r.1 30 0 k) :
    ∀ (m j n : Nat) (w : Int), j + m = 64 → m < n → ((w = -1 ∧ j ≤ k0) ∨ (∃ k : Nat, k < 64 ∧ w = k ∧ r.1 24 0 k = 1 ∧ r.1 28 0 k = p ∧ r.1 25 0 k = f ∧ (k = k0 ∨ j ≤ k0))) → di_Y_head_5 K n p f w j r = K k0 r := by
  intro m
  induction m with
  | zero =>
    intro j n w hj hn hw
    obtain ⟨n, rfl⟩ : ∃ q, n = q + 1 := ⟨n - 1, by omega⟩
    rw [di_Y_head_5]
    refine rgb (by omega) (itp (by omega) ?_)
    rcases hw with hw | ⟨k, hk, e, -, -, -, h9⟩
    · omega
    · have e1 : k = k0 := by omega
      rw [e, e1]
  | succ m ih =>
    intro j n w hj hn hw
    obtain ⟨n, rfl⟩ : ∃ q, n = q + 1 := ⟨n - 1, by omega⟩
    have hj64 : j < 64 := by omega
    have step : ∀ w2 : Int, ((w2 = -1 ∧ j + 1 ≤ k0) ∨ (∃ k : Nat, k < 64 ∧ w2 = k ∧ r.1 24 0 k = 1 ∧ r.1 28 0 k = p ∧ r.1 25 0 k = f ∧ (k = k0 ∨ j + 1 ≤ k0))) → di_Y_head_5 K n p f w2 ((j : Int) + 1) r = K k0 r := fun w2 h => ih (j + 1) n w2 (by omega) (by omega) h
    have other : ¬ (r.1 24 0 j = 1 ∧ r.1 28 0 j = p ∧ r.1 25 0 j = f) → di_Y_head_5 K n p f w ((j : Int) + 1) r = K k0 r := by
      intro hn2
      have ne : j ≠ k0 := fun q => hn2 (by rw [q]; exact e0)
      refine step w ?_
      rcases hw with hw | ⟨k, hk, e, q1, q2, q3, h9⟩
      · exact Or.inl ⟨hw.1, by omega⟩
      · exact Or.inr ⟨k, hk, e, q1, q2, q3, by omega⟩
    rw [di_Y_head_5]
    refine rgb (by omega) (itn (by omega) (azb rfl hj64 (rgb (hs j hj64) ?_)))
    by_cases c1 : r.1 24 0 j = 1
    · have x := hp j hj64 c1
      refine itp c1 (azb rfl hj64 (rgb x.1 (rgb h1 ?_)))
      by_cases c2 : r.1 28 0 j = p
      · refine itp c2 (azb rfl hj64 (rgb x.2.1 (rgb h2 ?_)))
        by_cases c3 : r.1 25 0 j = f
        · refine itp c3 ?_
          rcases hw with hw | ⟨k, hk, e, q1, q2, q3, h9⟩
          · exact rgb (by omega) (itp hw.1 (step _ (Or.inr ⟨j, hj64, rfl, c1, c2, c3, by omega⟩)))
          · have y := hp k hk q1
            subst e
            refine rgb (by omega) (itn (by omega) (azb rfl hj64 (azb rfl hk (rgb y.2.2 (rgb x.2.2 ?_)))))
            by_cases c4 : r.1 30 0 k ≤ r.1 30 0 j
            · refine itp c4 (step _ (Or.inr ⟨k, hk, rfl, q1, q2, q3, ?_⟩))
              by_cases c5 : k = k0
              · exact Or.inl c5
              · have z1 := hmin k hk c5 q1 q2 q3
                have ne : j ≠ k0 := fun q => by
                  subst q
                  omega
                omega
            · refine itn c4 (step _ (Or.inr ⟨j, hj64, rfl, c1, c2, c3, ?_⟩))
              by_cases c5 : j = k0
              · exact Or.inl c5
              · have z1 := hmin j hj64 c5 c1 c2 c3
                have ne : k ≠ k0 := fun q => by
                  subst q
                  omega
                omega
        · exact itn c3 (other fun q => c3 q.2.2)
      · exact itn c2 (other fun q => c2 q.2.1)
    · exact itn c1 (other fun q => c1 q.1)
/-- a listed flow's first packet: its place and number, found by both sides -/
theorem first_p (H : Rel B h a r) (hB : B < 1000000000) (hp : (p : Int) < 2 * r.1 0 0 0) {f : Nat} (hf : ∃ i : Nat, (i : Int) < a.1 4 p 9 ∧ a.1 6 p i = f) : ∃ P k : Nat, (P : Int) < a.1 4 p 8 ∧ k < 64 ∧ a.1 5 p P = k ∧ r.1 24 0 k = 1 ∧ r.1 28 0 k = p ∧ r.1 25 0 k = f ∧ (∀ i, i < P → r.1 25 0 (a.1 5 p i).toNat ≠ f) ∧
    di_X_firstPlaceOf p f a = some ((P : Int), a) ∧ di_Y_head p f r = some ((k : Int), r) := by
  have hG := H.G
  unfold rG at hG
  have hQ := H.Q hp
  have hLL := H.L hp
  have hn := (qn_pos H hp).mpr hf
  have hf6 : f < 6 := by
    obtain ⟨i, hi, e⟩ := hf
    have := hLL.2.2.2.2.1 i hi
    omega
  obtain ⟨i0, hi0, e0⟩ := cnt_pos hn
  have h0 := hQ.1
  have h8 := hQ.2.1
  -- the least such place
  have least : ∀ n, (∃ i, i < n ∧ i < (a.1 4 p 8).toNat ∧ qx a p f i = true) → ∃ P, P < (a.1 4 p 8).toNat ∧ qx a p f P = true ∧ ∀ i, i < P → qx a p f i = false := by
    intro n
    induction n with
    | zero => intro ⟨i, hi, _⟩; exact absurd hi (Nat.not_lt_zero i)
    | succ n ih =>
      intro ⟨i, hi, hi2, hi3⟩
      by_cases c : ∃ i, i < n ∧ i < (a.1 4 p 8).toNat ∧ qx a p f i = true
      · exact ih c
      · have e1 : i = n := by
          by_cases d : i = n
          · exact d
          · exact absurd ⟨i, by omega, hi2, hi3⟩ c
        subst e1
        refine ⟨i, hi2, hi3, fun i2 hi2' => ?_⟩
        cases q : qx a p f i2 with
        | false => rfl
        | true => exact absurd ⟨i2, hi2', by omega, q⟩ c
  obtain ⟨P, hP, eP, hmin⟩ := least _ ⟨i0, hi0, hi0, e0⟩
  have xP := hQ.2.2.1 P (by omega)
  have oP := rQ_of H.P hQ (i := P) (by omega)
  have vP : a.1 11 (a.1 5 p P).toNat 2 = f := of_decide_eq_true eP
  have hle : ∀ i, i < P → r.1 25 0 (a.1 5 p i).toNat ≠ f := fun i hi e => by
    have o := rQ_of H.P hQ (i := i) (by omega)
    have hf2 := hmin i hi
    have : a.1 11 (a.1 5 p i).toNat 2 ≠ f := of_decide_eq_false hf2
    omega
  refine ⟨P, (a.1 5 p P).toNat, by omega, by omega, by omega, xP.2.2.1, xP.2.2.2, by omega, hle, ?_, ?_⟩
  · refine xplace_l (N := (a.1 4 p 8).toNat) (by omega) (by omega) (fun i hi => ?_) hf6 hP vP (fun i hi => ?_) P 0 FU (by omega) (by have : FU = 200 := rfl; omega)
    · have x := hQ.2.2.1 i (by omega)
      have y := rQ_of H.P hQ (i := i) (by omega)
      exact ⟨x.1, x.2.1, by unfold ir; omega⟩
    · exact of_decide_eq_false (hmin i hi)
  · refine yhead_l (k0 := (a.1 5 p P).toNat) (fun k hk => by have := rP_st H.P hk; unfold ir; omega) (fun k hk hs => by have := rP_in H.P hk (Or.inl hs); have h9 := this.2.2.1; unfold rLab at h9; unfold ir; omega) (by unfold ir; omega) (by unfold ir; omega) (by omega) ⟨xP.2.2.1, xP.2.2.2, by omega⟩ (fun k hk ne q1 q2 q3 => ?_) 64 0 FU (-1) rfl (by decide) (Or.inl ⟨rfl, Nat.zero_le _⟩)
    obtain ⟨i, hi, e⟩ := hQ.2.2.2.2 k hk q1 q2
    have ek : (a.1 5 p i).toNat = k := by omega
    have c : P < i := by
      by_cases c1 : i < P
      · have := hle i c1
        rw [ek] at this
        exact absurd q3 this
      · by_cases c2 : i = P
        · subst c2
          exact absurd ek.symm ne
        · omega
    have y := hQ.2.2.2.1 P i c hi
    rw [ek] at y
    exact y
end QUEUE
