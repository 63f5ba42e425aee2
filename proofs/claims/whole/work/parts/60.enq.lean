/-! ===== a packet in hand: it is put into a queue, or it goes out of the net ===== -/
section ENQ
variable {B B1 : Int} {a a1 r r1 : MemI} {p k N f : Nat}
theorem enq_rel (H : Rel B k a r) (hk : k < 64) (hB : B ≤ B1) (hp : (p : Int) < 2 * r.1 0 0 0) (hN : a.1 4 p 8 = N) (hN8 : N < 8)
    (A0 : ∀ c, c ≠ 4 → c ≠ 5 → c ≠ 6 → c ≠ 11 → a1.1 c = a.1 c) (A2 : a1.2 = a.2) (Aq : ∀ q, q ≠ p → a1.1 4 q = a.1 4 q ∧ a1.1 5 q = a.1 5 q ∧ a1.1 6 q = a.1 6 q) (A4 : ∀ j, j ≠ 8 → j ≠ 9 → a1.1 4 p j = a.1 4 p j) (A48 : a1.1 4 p 8 = (N : Int) + 1) (A5 : ∀ i, a1.1 5 p i = if i = N then (k : Int) else a.1 5 p i) (A11 : ∀ j i, a1.1 11 j i = if j = k ∧ i = 6 then (p : Int) else a.1 11 j i)
    (R0 : ∀ c, c ≠ 0 → c ≠ 24 → c ≠ 28 → c ≠ 30 → c ≠ 31 → c ≠ 32 → c ≠ 33 → r1.1 c = r.1 c) (R24 : ∀ j, r1.1 24 0 j = if j = k then 1 else r.1 24 0 j) (R28 : ∀ j, r1.1 28 0 j = if j = k then (p : Int) else r.1 28 0 j) (R30 : ∀ j, r1.1 30 0 j = if j = k then r1.1 0 0 37 else r.1 30 0 j) (R3 : ∀ q g, q ≠ p → g < 6 → r1.1 31 0 (6 * q + g) = r.1 31 0 (6 * q + g) ∧ r1.1 32 0 (6 * q + g) = r.1 32 0 (6 * q + g) ∧ r1.1 33 0 (6 * q + g) = r.1 33 0 (6 * q + g)) (R1 : ∀ j, j ≠ 37 → r1.1 0 0 j = r.1 0 0 j) (R37 : r.1 0 0 37 < r1.1 0 0 37 ∧ r1.1 0 0 37 ≤ B1) (R2 : r1.2 = r.2) (hL : rL a1 r1 p) : Rel B1 64 a1 r1 := by
  have hG := H.G
  have hG2 := hG
  unfold rG at hG2
  have e0 := R1 0 (by decide)
  have e9 := R1 9 (by decide)
  have h25 : r1.1 25 = r.1 25 := R0 25 (by decide) (by decide) (by decide) (by decide) (by decide) (by decide) (by decide)
  have E : ∀ j, j ≠ k → r1.1 24 0 j = r.1 24 0 j ∧ r1.1 25 0 j = r.1 25 0 j ∧ r1.1 28 0 j = r.1 28 0 j ∧ r1.1 30 0 j = r.1 30 0 j := fun j hj => by
    rw [R24, if_neg hj, R30, if_neg hj, R28, if_neg hj, h25]
    exact ⟨rfl, rfl, rfl, rfl⟩
  have hand := H.P.2 hk
  have k1 : r1.1 24 0 k = 1 := by rw [R24, if_pos rfl]
  have k28 : r1.1 28 0 k = p := by rw [R28, if_pos rfl]
  have a110 : ∀ j, a1.1 11 j 0 = a.1 11 j 0 := fun j => by rw [A11, if_neg (by omega)]
  have lab : ∀ j, rLab a r j → rLab a1 r1 j := fun j => rLab_c (fun i => by
      by_cases e : i = 6
      · exact Or.inr (Or.inr e)
      · exact Or.inl (by rw [A11, if_neg (fun q => e q.2)])) (by rw [e9]; omega) (fun g _ => by rw [R0 9 (by decide) (by decide) (by decide) (by decide) (by decide) (by decide) (by decide), R0 10 (by decide) (by decide) (by decide) (by decide) (by decide) (by decide) (by decide), R0 12 (by decide) (by decide) (by decide) (by decide) (by decide) (by decide) (by decide)]; exact ⟨rfl, rfl, rfl⟩) (by rw [h25]) (by rw [R0 26 (by decide) (by decide) (by decide) (by decide) (by decide) (by decide) (by decide)]) (by rw [R0 27 (by decide) (by decide) (by decide) (by decide) (by decide) (by decide) (by decide)])
  refine ⟨?_, ?_, ?_, rD_c (A0 2 (by decide) (by decide) (by decide) (by decide)) e0 (R0 1 (by decide) (by decide) (by decide) (by decide) (by decide) (by decide) (by decide)) (R0 2 (by decide) (by decide) (by decide) (by decide) (by decide) (by decide) (by decide)) (R0 3 (by decide) (by decide) (by decide) (by decide) (by decide) (by decide) (by decide)) (R0 8 (by decide) (by decide) (by decide) (by decide) (by decide) (by decide) (by decide)) H.D,
    rF_c (A0 9 (by decide) (by decide) (by decide) (by decide)) e9 (fun c h1 h2 => R0 c (by omega) (by omega) (by omega) (by omega) (by omega) (by omega) (by omega)) (R0 23 (by decide) (by decide) (by decide) (by decide) (by decide) (by decide) (by decide)) hB H.F, ⟨fun j hj _ => ?_, fun hh => by omega⟩, fun q hq => ?_, ?_,
    rN_c a110 e9 (R1 35 (by decide)) (R0 19 (by decide) (by decide) (by decide) (by decide) (by decide) (by decide) (by decide)) (R0 21 (by decide) (by decide) (by decide) (by decide) (by decide) (by decide) (by decide)) h25 H.N, rT_c A2 R2 (R1 38 (by decide)) H.T⟩
  · unfold rG at *
    rw [A0 0 (by decide) (by decide) (by decide) (by decide), A0 12 (by decide) (by decide) (by decide) (by decide), e0, e9, R1 36 (by decide), R1 35 (by decide), R1 38 (by decide)]
    omega
  · refine rK_c (fun q j hj => ?_) e0 (R0 1 (by decide) (by decide) (by decide) (by decide) (by decide) (by decide) (by decide)) (R0 2 (by decide) (by decide) (by decide) (by decide) (by decide) (by decide) (by decide)) (R0 3 (by decide) (by decide) (by decide) (by decide) (by decide) (by decide) (by decide)) (R0 4 (by decide) (by decide) (by decide) (by decide) (by decide) (by decide) (by decide)) (R0 5 (by decide) (by decide) (by decide) (by decide) (by decide) (by decide) (by decide)) H.K
    by_cases e : q = p
    · subst e
      exact A4 j (by omega) (by omega)
    · rw [(Aq q e).1]
  · refine rS_c (fun q => ?_) e0 (R0 6 (by decide) (by decide) (by decide) (by decide) (by decide) (by decide) (by decide)) (R0 7 (by decide) (by decide) (by decide) (by decide) (by decide) (by decide) (by decide)) H.S
    by_cases e : q = p
    · subst e
      exact ⟨A4 5 (by omega) (by omega), A4 6 (by omega) (by omega)⟩
    · rw [(Aq q e).1]
      exact ⟨rfl, rfl⟩
  · rw [a110, e0]
    by_cases e : j = k
    · subst e
      rw [k1, R30, if_pos rfl, k28, A11, if_pos ⟨rfl, rfl⟩]
      exact Or.inr ⟨hand.1, by omega, by omega, lab j hand.2.2, rfl, by omega, hp, by omega, by omega⟩
    · have z := E j e
      rw [z.1, z.2.2.1, z.2.2.2, A11 j 6, if_neg (fun q => e q.1)]
      rcases H.P.1 j hj e with x | x
      · exact Or.inl x
      · exact Or.inr ⟨x.1, x.2.1, x.2.2.1, lab j x.2.2.2.1, x.2.2.2.2.1, x.2.2.2.2.2.1, x.2.2.2.2.2.2.1, x.2.2.2.2.2.2.2.1, by omega⟩
  · have hq2 : (q : Int) < 2 * r.1 0 0 0 := by rw [← e0]; exact hq
    have n24 : ¬ r.1 24 0 k = 1 := by omega
    have m24 : ¬ r.1 24 0 k = 2 := by omega
    by_cases e : q = p
    · subst e
      refine ⟨?_, hL, othO (k := k) E (fun x => m24 x.1) (fun x => by omega) (A4 7 (by decide) (by decide)) (H.O hq2)⟩
      have hQ := H.Q hq2
      have hQ2 := hQ
      unfold rQ at hQ2 ⊢
      obtain ⟨x1, x2, x3, x4, x5⟩ := hQ2
      rw [A48]
      have ne : ∀ i : Nat, i < N → (a.1 5 q i).toNat ≠ k := fun i hi e => by
        have y := x3 i (by omega)
        rw [e] at y
        exact n24 y.2.2.1
      refine ⟨by omega, by omega, fun i hi => ?_, fun i j hij hj => ?_, fun j hj h1 h2 => ?_⟩
      · rw [A5]
        by_cases c : i = N
        · rw [if_pos c, show ((k : Int)).toNat = k from rfl, k1, k28]
          exact ⟨by omega, by omega, rfl, rfl⟩
        · rw [if_neg c, (E _ (ne i (by omega))).1, (E _ (ne i (by omega))).2.2.1]
          exact x3 i (by omega)
      · rw [A5, A5, if_neg (by omega), (E _ (ne i (by omega))).2.2.2]
        by_cases c : j = N
        · rw [if_pos c, show ((k : Int)).toNat = k from rfl, R30, if_pos rfl]
          have y := x3 i (by omega)
          have z := rP_in H.P (k := (a.1 5 q i).toNat) (by omega) (Or.inl y.2.2.1)
          omega
        · rw [if_neg c, (E _ (ne j (by omega))).2.2.2]
          exact x4 i j hij (by omega)
      · by_cases c : j = k
        · exact ⟨N, by omega, by rw [A5, if_pos rfl, c]⟩
        · have z := E j c
          rw [z.1] at h1
          rw [z.2.2.1] at h2
          obtain ⟨i, hi, ei⟩ := x5 j hj h1 h2
          exact ⟨i, by omega, by rw [A5, if_neg (by omega)]; exact ei⟩
    · have w := Aq q e
      exact ⟨othQ (k := k) E (fun x => n24 x.1) (fun x => by omega) (by rw [w.1]) w.2.1 (H.Q hq2), othL (k := k) E (fun x => n24 x.1) (fun x => by omega) (by rw [w.1]) (by rw [w.1]) w.2.2 (by rw [A0 7 (by decide) (by decide) (by decide) (by decide)]) e9 (by omega) (by omega) (fun g hg => R3 q g e hg) (H.L hq2), othO (k := k) E (fun x => m24 x.1) (fun x => by omega) (by rw [w.1]) (H.O hq2)⟩
  · have s19 := R0 19 (by decide) (by decide) (by decide) (by decide) (by decide) (by decide) (by decide)
    have s20 := R0 20 (by decide) (by decide) (by decide) (by decide) (by decide) (by decide) (by decide)
    have s21 := R0 21 (by decide) (by decide) (by decide) (by decide) (by decide) (by decide) (by decide)
    have s22 := R0 22 (by decide) (by decide) (by decide) (by decide) (by decide) (by decide) (by decide)
    have s29 := R0 29 (by decide) (by decide) (by decide) (by decide) (by decide) (by decide) (by decide)
    have rkk : ∀ s, s < 70 → rk r1 64 s = rk r k s := fun s hs => by
      by_cases c : s < 6
      · unfold rk
        rw [if_pos c, if_pos c, e9, s19, s21]
      · obtain ⟨j, rfl⟩ : ∃ j, s = 6 + j := ⟨s - 6, by omega⟩
        rw [rk_k, rk_k]
        by_cases e : j = k
        · rw [if_pos e, if_neg (by omega), e, k1]
          rfl
        · rw [if_neg e, if_neg (by omega), (E j e).1]
    refine rA_fr H.A (fun s hs => ?_) (fun s => by rw [A0 14 (by decide) (by decide) (by decide) (by decide)]) (fun s => by rw [A0 15 (by decide) (by decide) (by decide) (by decide)]) (by rw [A0 12 (by decide) (by decide) (by decide) (by decide)]) (fun s hs hks => ?_) (by omega) hB
    · rw [A0 13 (by decide) (by decide) (by decide) (by decide), rkk s hs]
      exact H.A.1 s hs
    · rw [rkk s hs] at hks
      refine ⟨hks, ?_⟩
      by_cases c : s < 6
      · rw [rt_f c, rt_f c, ru_f c, ru_f c, s19, s20, s21, s22]
        exact ⟨rfl, rfl⟩
      · obtain ⟨j, rfl⟩ : ∃ j, s = 6 + j := ⟨s - 6, by omega⟩
        have nj : j ≠ k := fun e => by
          rw [rk_k, if_pos e] at hks
          exact hks rfl
        rw [rt_k, rt_k, ru_k, ru_k, s29, (E j nj).2.2.2]
        exact ⟨rfl, rfl⟩
/-- the list, where the flow stands in it already -/
theorem addL (hk : k < 64) (hLL : rL a r p) (n24 : ¬ r.1 24 0 k = 1) (k25 : r.1 25 0 k = f) (hf : ∃ i : Nat, (i : Int) < a.1 4 p 9 ∧ a.1 6 p i = f) (hf6 : r.1 0 0 9 ≤ 6)
    (A9 : a1.1 4 p 9 = a.1 4 p 9) (A10 : a1.1 4 p 10 = a.1 4 p 10) (A6 : a1.1 6 p = a.1 6 p) (A7 : a1.1 7 = a.1 7) (R24 : ∀ j, r1.1 24 0 j = if j = k then 1 else r.1 24 0 j) (R28 : ∀ j, r1.1 28 0 j = if j = k then (p : Int) else r.1 28 0 j) (R25 : r1.1 25 = r.1 25) (R31 : r1.1 31 = r.1 31) (R32 : r1.1 32 = r.1 32) (R33 : r1.1 33 = r.1 33) (R9 : r1.1 0 0 9 = r.1 0 0 9) (R37 : r.1 0 0 37 ≤ r1.1 0 0 37) : rL a1 r1 p := by
  unfold rL at *
  obtain ⟨x1, x2, x3, x4, x5, x6, x7, x8⟩ := hLL
  rw [A9, A10, A6, A7, R25, R31, R32, R33, R9]
  refine ⟨x1, x2, x3, x4, fun i hi => ?_, x6, fun j hj h1 h2 => ?_, x8⟩
  · have y := x5 i hi
    obtain ⟨j, j1, j2, j3, j4⟩ := y.2.2.1
    have nj : j ≠ k := fun q => by
      subst q
      exact n24 j2
    exact ⟨y.1, y.2.1, ⟨j, j1, by rw [R24, if_neg nj]; exact j2, by rw [R28, if_neg nj]; exact j3, j4⟩, y.2.2.2.1, y.2.2.2.2.1, by omega, y.2.2.2.2.2.2⟩
  · by_cases c : j = k
    · obtain ⟨i, hi, e⟩ := hf
      exact ⟨i, hi, by rw [c, k25]; exact e⟩
    · rw [R24, if_neg c] at h1
      rw [R28, if_neg c] at h2
      exact x7 j hj h1 h2
/-- the list, where the flow comes new -/
theorem newL (hk : k < 64) (hLL : rL a r p) (n24 : ¬ r.1 24 0 k = 1) (k25 : r.1 25 0 k = f) (hff : (f : Int) < r.1 0 0 9) (hno : ∀ i : Nat, (i : Int) < a.1 4 p 9 → a.1 6 p i ≠ f) (hf6 : r.1 0 0 9 ≤ 6) {m : Nat} (hm : a.1 4 p 9 = m) (hm6 : m < 6) (h37 : 0 ≤ r.1 0 0 37)
    (A9 : a1.1 4 p 9 = (m : Int) + 1) (A10 : a1.1 4 p 10 = a.1 4 p 10) (A6 : ∀ i, a1.1 6 p i = if i = m then (f : Int) else a.1 6 p i) (A7 : a1.1 7 = a.1 7) (R24 : ∀ j, r1.1 24 0 j = if j = k then 1 else r.1 24 0 j) (R28 : ∀ j, r1.1 28 0 j = if j = k then (p : Int) else r.1 28 0 j) (R25 : r1.1 25 = r.1 25)
    (R31 : ∀ g, r1.1 31 0 (6 * p + g) = if g = f then r.1 0 0 37 + 1 else r.1 31 0 (6 * p + g)) (R32 : ∀ g, r1.1 32 0 (6 * p + g) = if g = f then 0 else r.1 32 0 (6 * p + g)) (R33 : ∀ g, r1.1 33 0 (6 * p + g) = if g = f then 0 else r.1 33 0 (6 * p + g)) (R9 : r1.1 0 0 9 = r.1 0 0 9) (R37 : r.1 0 0 37 + 1 ≤ r1.1 0 0 37) : rL a1 r1 p := by
  unfold rL at *
  obtain ⟨x1, x2, x3, x4, x5, x6, x7, x8⟩ := hLL
  rw [A9, A10, A7, R25, R9]
  have nf : ∀ i : Nat, i < m → (a.1 6 p i).toNat ≠ f := fun i hi e => by
    have y := x5 i (by omega)
    exact hno i (by omega) (by omega)
  have fz : a.1 7 p f = 0 := x8 f (by omega) hno
  refine ⟨by omega, by omega, x3, fun q => by omega, fun i hi => ?_, fun i j hij hj => ?_, fun j hj h1 h2 => ?_, fun g hg hn => ?_⟩
  · rw [A6]
    by_cases c : i = m
    · have if7 : (0 : Int) ≤ (if i = 0 ∧ a.1 4 p 10 = 1 then 23 else 7) := by split <;> omega
      rw [if_pos c, show ((f : Int)).toNat = f from rfl, R31, R32, R33, if_pos rfl, if_pos rfl, if_pos rfl, fz]
      refine ⟨by omega, hff, ⟨k, hk, by rw [R24, if_pos rfl], by rw [R28, if_pos rfl], k25⟩, rfl, ?_, by omega, by omega, if7, by omega⟩
      by_cases c0 : i = 0
      · rw [if_pos c0]
        have := x4 (by omega)
        omega
      · rw [if_neg c0]
    · have y := x5 i (by omega)
      have ne := nf i (by omega)
      rw [if_neg c, R31, R32, R33, if_neg ne, if_neg ne, if_neg ne]
      obtain ⟨j, j1, j2, j3, j4⟩ := y.2.2.1
      have nj : j ≠ k := fun q => by
        subst q
        exact n24 j2
      exact ⟨y.1, y.2.1, ⟨j, j1, by rw [R24, if_neg nj]; exact j2, by rw [R28, if_neg nj]; exact j3, j4⟩, y.2.2.2.1, y.2.2.2.2.1, by omega, y.2.2.2.2.2.2⟩
  · rw [A6, A6, if_neg (by omega), R31, if_neg (nf i (by omega))]
    by_cases c : j = m
    · rw [if_pos c, show ((f : Int)).toNat = f from rfl, R31, if_pos rfl]
      have y := x5 i (by omega)
      omega
    · rw [if_neg c, R31, if_neg (nf j (by omega))]
      exact x6 i j hij (by omega)
  · by_cases c : j = k
    · exact ⟨m, by omega, by rw [A6, if_pos rfl, c, k25]⟩
    · rw [R24, if_neg c] at h1
      rw [R28, if_neg c] at h2
      obtain ⟨i, hi, e⟩ := x7 j hj h1 h2
      exact ⟨i, by omega, by rw [A6, if_neg (by omega)]; exact e⟩
  · refine x8 g hg (fun i hi e => ?_)
    exact hn i (by omega) (by rw [A6, if_neg (by omega)]; exact e)
/-- a packet in hand goes out of the net; one tally of its flow grows (sl: the class's slot, tl: the reference's) -/
theorem gone_rel (H : Rel B k a r) (hk : k < 64) {sl tl : Nat} (hsl : (sl = 11 ∧ tl = 1) ∨ (sl = 12 ∧ tl = 2)) (hf : r.1 25 0 k = f) :
    Rel (B + 1) 64 (pN (pN a 11 k 0 0) 9 f sl (a.1 9 f sl + 1)) (pN (pN r 24 0 k 0) 23 0 (4 * f + tl) (r.1 23 0 (4 * f + tl) + 1)) := by
  have hG := H.G
  have hand := H.P.2 hk
  have lab0 := hand.2.2
  unfold rLab at lab0
  have ff : (f : Int) < r.1 0 0 9 := by omega
  have E : ∀ j, j ≠ k → (pN (pN r 24 0 k 0) 23 0 (4 * f + tl) (r.1 23 0 (4 * f + tl) + 1)).1 24 0 j = r.1 24 0 j ∧ (pN (pN r 24 0 k 0) 23 0 (4 * f + tl) (r.1 23 0 (4 * f + tl) + 1)).1 25 0 j = r.1 25 0 j ∧ (pN (pN r 24 0 k 0) 23 0 (4 * f + tl) (r.1 23 0 (4 * f + tl) + 1)).1 28 0 j = r.1 28 0 j ∧ (pN (pN r 24 0 k 0) 23 0 (4 * f + tl) (r.1 23 0 (4 * f + tl) + 1)).1 30 0 j = r.1 30 0 j := fun j hj => ⟨by rw [pN_ne (by omega), pN_ne (by omega)], rfl, rfl, rfl⟩
  have k0 : (pN (pN r 24 0 k 0) 23 0 (4 * f + tl) (r.1 23 0 (4 * f + tl) + 1)).1 24 0 k = 0 := by rw [pN_ne (by omega), pN_at]
  have lab : ∀ j, j ≠ k → rLab a r j → rLab (pN (pN a 11 k 0 0) 9 f sl (a.1 9 f sl + 1)) (pN (pN r 24 0 k 0) 23 0 (4 * f + tl) (r.1 23 0 (4 * f + tl) + 1)) j := fun j hj => rLab_c (fun i => Or.inl (by rw [pN_ne (by omega), pN_ne (by omega)])) (Int.le_refl _) (fun _ _ => ⟨rfl, rfl, rfl⟩) rfl rfl rfl
  have n1 : ¬ r.1 24 0 k = 1 := by omega
  have n2 : ¬ r.1 24 0 k = 2 := by omega
  refine ⟨rG_c (a := a) (r := r) (fun j => rfl) rfl (fun _ => rfl) (by omega) hG, rK_c (a := a) (r := r) (fun _ _ _ => rfl) rfl rfl rfl rfl rfl rfl H.K, rS_c (a := a) (r := r) (fun _ => ⟨rfl, rfl⟩) rfl rfl rfl H.S, rD_c (a := a) (r := r) rfl rfl rfl rfl rfl rfl H.D, fun g hg => ?_, ⟨fun j hj _ => ?_, fun hh => by omega⟩, fun q hq => ⟨othQ (k := k) E (fun x => n1 x.1) (fun x => by rw [k0] at x; omega) rfl rfl (H.Q hq), othL (k := k) E (fun x => n1 x.1) (fun x => by rw [k0] at x; omega) rfl rfl rfl rfl rfl (Int.le_refl _) (by unfold rG at hG; omega) (fun _ _ => ⟨rfl, rfl, rfl⟩) (H.L hq), othO (k := k) E (fun x => n2 x.1) (fun x => by rw [k0] at x; omega) rfl (H.O hq)⟩, ?_, ⟨fun g hg hs => ?_, fun h0 => ?_⟩, rT_c (a := a) (r := r) rfl rfl rfl H.T⟩
  · have x := H.F g hg
    rcases hsl with ⟨rfl, rfl⟩ | ⟨rfl, rfl⟩
    · simp only [pN_if]
      by_cases e : g = f
      · subst e
        simp
        omega
      · simp [e]
        have z0 : ¬ 4 * g = 4 * f + 1 := by omega
        have z2 : ¬ 4 * g + 2 = 4 * f + 1 := by omega
        have z3 : ¬ 4 * g + 3 = 4 * f + 1 := by omega
        simp [z0, z2, z3]
        omega
    · simp only [pN_if]
      by_cases e : g = f
      · subst e
        simp
        omega
      · simp [e]
        have z0 : ¬ 4 * g = 4 * f + 2 := by omega
        have z2 : ¬ 4 * g + 1 = 4 * f + 2 := by omega
        have z3 : ¬ 4 * g + 3 = 4 * f + 2 := by omega
        simp [z0, z2, z3]
        omega
  · by_cases e : j = k
    · subst e
      exact Or.inl ⟨by rw [pN_ne (by omega), pN_at], k0⟩
    · have z := E j e
      rw [z.1, z.2.2.1, z.2.2.2, pN_ne (by omega), pN_ne (by omega), pN_ne (by omega), pN_ne (by omega)]
      rcases H.P.1 j hj e with x | x
      · exact Or.inl x
      · exact Or.inr ⟨x.1, x.2.1, x.2.2.1, lab j e x.2.2.2.1, x.2.2.2.2.1, x.2.2.2.2.2.1, x.2.2.2.2.2.2.1, x.2.2.2.2.2.2.2.1, x.2.2.2.2.2.2.2.2⟩
  · have rkk : ∀ s, s < 70 → rk (pN (pN r 24 0 k 0) 23 0 (4 * f + tl) (r.1 23 0 (4 * f + tl) + 1)) 64 s = rk r k s := fun s hs => by
      by_cases c : s < 6
      · unfold rk
        rw [if_pos c, if_pos c]
        rfl
      · obtain ⟨j, rfl⟩ : ∃ j, s = 6 + j := ⟨s - 6, by omega⟩
        rw [rk_k, rk_k]
        by_cases e : j = k
        · rw [if_pos e, if_neg (by omega), e, k0]
          rfl
        · rw [if_neg e, if_neg (by omega), (E j e).1]
    refine rA_fr (a := a) (r := r) H.A (fun s hs => ?_) (fun s => rfl) (fun s => rfl) rfl (fun s hs hks => ?_) (Int.le_refl _) (by omega)
    · rw [rkk s hs]
      exact H.A.1 s hs
    · rw [rkk s hs] at hks
      exact ⟨hks, rfl, rfl⟩
  · have x := H.N.1 g hg hs
    refine ⟨x.1, fun j hj hin => ?_⟩
    refine x.2 j hj ?_
    by_cases e : j = k
    · rw [e]
      exact hand.1
    · rw [pN_ne (by omega), pN_ne (by omega)] at hin
      exact hin
  · have x := H.N.2 h0
    have := x.1 k hk
    omega
end ENQ
