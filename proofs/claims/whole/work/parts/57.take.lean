/-! ===== one packet changes: what other ports see of it ===== -/
section ONE
variable {a a1 r r1 : MemI} {k q : Nat}
theorem othQ (E : ∀ j, j ≠ k → r1.1 24 0 j = r.1 24 0 j ∧ r1.1 25 0 j = r.1 25 0 j ∧ r1.1 28 0 j = r.1 28 0 j ∧ r1.1 30 0 j = r.1 30 0 j) (n0 : ¬ (r.1 24 0 k = 1 ∧ r.1 28 0 k = q)) (n1 : ¬ (r1.1 24 0 k = 1 ∧ r1.1 28 0 k = q)) (h8 : a1.1 4 q 8 = a.1 4 q 8) (h5 : a1.1 5 q = a.1 5 q) (H : rQ a r q) : rQ a1 r1 q := by
  unfold rQ at *
  rw [h8, h5]
  obtain ⟨x1, x2, x3, x4, x5⟩ := H
  have ne : ∀ i : Nat, (i : Int) < a.1 4 q 8 → (a.1 5 q i).toNat ≠ k := fun i hi e => by
    have y := x3 i hi
    rw [e] at y
    exact n0 ⟨y.2.2.1, y.2.2.2⟩
  refine ⟨x1, x2, fun i hi => ?_, fun i j hij hj => ?_, fun j hj h1 h2 => ?_⟩
  · have z := E _ (ne i hi)
    rw [z.1, z.2.2.1]
    exact x3 i hi
  · rw [(E _ (ne i (by omega))).2.2.2, (E _ (ne j hj)).2.2.2]
    exact x4 i j hij hj
  · have nk : j ≠ k := fun e => by
      subst e
      exact n1 ⟨h1, h2⟩
    have z := E j nk
    rw [z.1] at h1
    rw [z.2.2.1] at h2
    exact x5 j hj h1 h2
theorem othL (E : ∀ j, j ≠ k → r1.1 24 0 j = r.1 24 0 j ∧ r1.1 25 0 j = r.1 25 0 j ∧ r1.1 28 0 j = r.1 28 0 j ∧ r1.1 30 0 j = r.1 30 0 j) (n0 : ¬ (r.1 24 0 k = 1 ∧ r.1 28 0 k = q)) (n1 : ¬ (r1.1 24 0 k = 1 ∧ r1.1 28 0 k = q)) (h9 : a1.1 4 q 9 = a.1 4 q 9) (h10 : a1.1 4 q 10 = a.1 4 q 10) (h6 : a1.1 6 q = a.1 6 q) (h7 : a1.1 7 q = a.1 7 q) (hf : r1.1 0 0 9 = r.1 0 0 9) (h37 : r.1 0 0 37 ≤ r1.1 0 0 37) (hf6 : r.1 0 0 9 ≤ 6)
    (R3 : ∀ f, f < 6 → r1.1 31 0 (6 * q + f) = r.1 31 0 (6 * q + f) ∧ r1.1 32 0 (6 * q + f) = r.1 32 0 (6 * q + f) ∧ r1.1 33 0 (6 * q + f) = r.1 33 0 (6 * q + f)) (H : rL a r q) : rL a1 r1 q := by
  unfold rL at *
  rw [h9, h10, h6, h7, hf]
  obtain ⟨x1, x2, x3, x4, x5, x6, x7, x8⟩ := H
  have s5 : ∀ i : Nat, (i : Int) < a.1 4 q 9 → (a.1 6 q i).toNat < 6 := fun i hi => by
    have := x5 i hi
    omega
  refine ⟨x1, x2, x3, x4, fun i hi => ?_, fun i j hij hj => ?_, fun j hj h1 h2 => ?_, x8⟩
  · have y := x5 i hi
    have z := R3 _ (s5 i hi)
    rw [z.1, z.2.1, z.2.2]
    obtain ⟨k2, g1, g2, g3, g4⟩ := y.2.2.1
    have ne : k2 ≠ k := fun e => by
      subst e
      exact n0 ⟨g2, g3⟩
    have w := E k2 ne
    exact ⟨y.1, y.2.1, ⟨k2, g1, by rw [w.1]; exact g2, by rw [w.2.2.1]; exact g3, by rw [w.2.1]; exact g4⟩, y.2.2.2.1, y.2.2.2.2.1, by omega, y.2.2.2.2.2.2⟩
  · rw [(R3 _ (s5 i (by omega))).1, (R3 _ (s5 j hj)).1]
    exact x6 i j hij hj
  · have nk : j ≠ k := fun e => by
      subst e
      exact n1 ⟨h1, h2⟩
    have z := E j nk
    rw [z.1] at h1
    rw [z.2.2.1] at h2
    rw [z.2.1]
    exact x7 j hj h1 h2
theorem othO (E : ∀ j, j ≠ k → r1.1 24 0 j = r.1 24 0 j ∧ r1.1 25 0 j = r.1 25 0 j ∧ r1.1 28 0 j = r.1 28 0 j ∧ r1.1 30 0 j = r.1 30 0 j) (n0 : ¬ (r.1 24 0 k = 2 ∧ r.1 28 0 k = q)) (n1 : ¬ (r1.1 24 0 k = 2 ∧ r1.1 28 0 k = q)) (h7 : a1.1 4 q 7 = a.1 4 q 7) (H : rO a r q) : rO a1 r1 q := by
  unfold rO at *
  rw [h7]
  rcases H with x | x
  · refine Or.inl ⟨x.1, fun j hj h1 h2 => ?_⟩
    have nk : j ≠ k := fun e => by
      subst e
      exact n1 ⟨h1, h2⟩
    have z := E j nk
    rw [z.1] at h1
    rw [z.2.2.1] at h2
    exact x.2 j hj h1 h2
  · have ne : (a.1 4 q 7).toNat ≠ k := fun e => by
      rw [e] at x
      exact n0 ⟨x.2.2.1, x.2.2.2.1⟩
    have w := E _ ne
    refine Or.inr ⟨x.1, x.2.1, by rw [w.1]; exact x.2.2.1, by rw [w.2.2.1]; exact x.2.2.2.1, fun j hj h1 h2 => ?_⟩
    have nk : j ≠ k := fun e => by
      subst e
      exact n1 ⟨h1, h2⟩
    have z := E j nk
    rw [z.1] at h1
    rw [z.2.2.1] at h2
    exact x.2.2.2.2 j hj h1 h2
end ONE
section TAKE
variable {B B1 : Int} {a a1 r r1 : MemI} {p k P L N : Nat} {tk : Int}
theorem take_rel (H : Rel B 64 a r) (hB : B + 1 ≤ B1) (hp : (p : Int) < 2 * r.1 0 0 0) (hN : a.1 4 p 8 = N) (hP : P < N) (hk : k < 64) (ePk : a.1 5 p P = k) (k24 : r.1 24 0 k = 1) (k28 : r.1 28 0 k = p) (hon : a.1 4 p 7 = -1) (htk : 0 ≤ tk ∧ tk ≤ B1)
    (A0 : ∀ c, c ≠ 4 → c ≠ 5 → c ≠ 6 → c ≠ 7 → c ≠ 12 → c ≠ 13 → c ≠ 14 → c ≠ 15 → a1.1 c = a.1 c) (A2 : a1.2 = a.2) (Aq : ∀ q, q ≠ p → a1.1 4 q = a.1 4 q ∧ a1.1 5 q = a.1 5 q ∧ a1.1 6 q = a.1 6 q ∧ a1.1 7 q = a.1 7 q) (A4 : ∀ j, j < 7 → a1.1 4 p j = a.1 4 p j) (A47 : a1.1 4 p 7 = k) (A48 : a1.1 4 p 8 = (N : Int) - 1)
    (A5 : ∀ i : Nat, (i : Int) < (N : Int) - 1 → a1.1 5 p i = a.1 5 p (if i < P then i else i + 1)) (A12 : a1.1 12 0 3 = a.1 12 0 3 + 1) (A13 : ∀ s, a1.1 13 0 s = if s = 6 + k then 2 else a.1 13 0 s) (A14 : ∀ s, a1.1 14 0 s = if s = 6 + k then tk else a.1 14 0 s) (A15 : ∀ s, a1.1 15 0 s = if s = 6 + k then a.1 12 0 3 else a.1 15 0 s)
    (R0 : ∀ c, c ≠ 0 → c ≠ 24 → c ≠ 29 → c ≠ 30 → c ≠ 32 → r1.1 c = r.1 c) (R24 : ∀ j, r1.1 24 0 j = if j = k then 2 else r.1 24 0 j) (R29 : ∀ j, r1.1 29 0 j = if j = k then tk else r.1 29 0 j) (R30 : ∀ j, r1.1 30 0 j = if j = k then r.1 0 0 37 + 1 else r.1 30 0 j) (R32 : ∀ q f, q ≠ p → f < 6 → r1.1 32 0 (6 * q + f) = r.1 32 0 (6 * q + f)) (R1 : ∀ j, j ≠ 37 → r1.1 0 0 j = r.1 0 0 j) (R37 : r1.1 0 0 37 = r.1 0 0 37 + 1) (R2 : r1.2 = r.2) (hL : rL a1 r1 p) : Rel B1 64 a1 r1 := by
  have hG := H.G
  have e0 := R1 0 (by decide)
  have e9 := R1 9 (by decide)
  have hG2 := hG
  unfold rG at hG2
  have h25 : r1.1 25 = r.1 25 := R0 25 (by decide) (by decide) (by decide) (by decide) (by decide)
  have h28 : r1.1 28 = r.1 28 := R0 28 (by decide) (by decide) (by decide) (by decide) (by decide)
  have h11 : a1.1 11 = a.1 11 := A0 11 (by decide) (by decide) (by decide) (by decide) (by decide) (by decide) (by decide) (by decide)
  have E : ∀ j, j ≠ k → r1.1 24 0 j = r.1 24 0 j ∧ r1.1 25 0 j = r.1 25 0 j ∧ r1.1 28 0 j = r.1 28 0 j ∧ r1.1 30 0 j = r.1 30 0 j := fun j hj => by
    rw [R24, if_neg hj, R30, if_neg hj, h25, h28]
    exact ⟨rfl, rfl, rfl, rfl⟩
  have k1 : r1.1 24 0 k = 2 := by rw [R24, if_pos rfl]
  have hQ := H.Q hp
  have lab : ∀ j, rLab a r j → rLab a1 r1 j := fun j => rLab_c (fun i => Or.inl (by rw [h11])) (by rw [e9]; omega) (fun f _ => by rw [R0 9 (by decide) (by decide) (by decide) (by decide) (by decide), R0 10 (by decide) (by decide) (by decide) (by decide) (by decide), R0 12 (by decide) (by decide) (by decide) (by decide) (by decide)]; exact ⟨rfl, rfl, rfl⟩) (by rw [h25]) (by rw [R0 26 (by decide) (by decide) (by decide) (by decide) (by decide)]) (by rw [R0 27 (by decide) (by decide) (by decide) (by decide) (by decide)])
  have kin := rP_in H.P hk (Or.inl k24)
  refine ⟨?_, ?_, ?_, rD_c (A0 2 (by decide) (by decide) (by decide) (by decide) (by decide) (by decide) (by decide) (by decide)) e0 (R0 1 (by decide) (by decide) (by decide) (by decide) (by decide)) (R0 2 (by decide) (by decide) (by decide) (by decide) (by decide)) (R0 3 (by decide) (by decide) (by decide) (by decide) (by decide)) (R0 8 (by decide) (by decide) (by decide) (by decide) (by decide)) H.D,
    rF_c (A0 9 (by decide) (by decide) (by decide) (by decide) (by decide) (by decide) (by decide) (by decide)) e9 (fun c h1 h2 => R0 c (by omega) (by omega) (by omega) (by omega) (by omega)) (R0 23 (by decide) (by decide) (by decide) (by decide) (by decide)) (by omega) H.F, ⟨fun j hj _ => ?_, fun hh => by omega⟩, fun q hq => ?_, ?_,
    rN_c (fun j => by rw [h11]) e9 (R1 35 (by decide)) (R0 19 (by decide) (by decide) (by decide) (by decide) (by decide)) (R0 21 (by decide) (by decide) (by decide) (by decide) (by decide)) h25 H.N, rT_c A2 R2 (R1 38 (by decide)) H.T⟩
  · unfold rG at *
    rw [A0 0 (by decide) (by decide) (by decide) (by decide) (by decide) (by decide) (by decide) (by decide), A12, e0, e9, R1 36 (by decide), R1 35 (by decide), R1 38 (by decide), R37]
    omega
  · refine rK_c (fun q j hj => ?_) e0 (R0 1 (by decide) (by decide) (by decide) (by decide) (by decide)) (R0 2 (by decide) (by decide) (by decide) (by decide) (by decide)) (R0 3 (by decide) (by decide) (by decide) (by decide) (by decide)) (R0 4 (by decide) (by decide) (by decide) (by decide) (by decide)) (R0 5 (by decide) (by decide) (by decide) (by decide) (by decide)) H.K
    by_cases e : q = p
    · subst e
      exact A4 j (by omega)
    · rw [(Aq q e).1]
  · refine rS_c (fun q => ?_) e0 (R0 6 (by decide) (by decide) (by decide) (by decide) (by decide)) (R0 7 (by decide) (by decide) (by decide) (by decide) (by decide)) H.S
    by_cases e : q = p
    · subst e
      exact ⟨A4 5 (by omega), A4 6 (by omega)⟩
    · rw [(Aq q e).1]
      exact ⟨rfl, rfl⟩
  · rw [h11, e0, R37]
    by_cases e : j = k
    · subst e
      rw [k1, R30, if_pos rfl, h28]
      exact Or.inr ⟨kin.2.1, by omega, by omega, lab j kin.2.2.1, kin.2.2.2.1, kin.2.2.2.2.1, kin.2.2.2.2.2.1, by omega, by omega⟩
    · have z := E j e
      rw [z.1, z.2.2.1, z.2.2.2]
      rcases H.P.1 j hj (by omega) with x | x
      · exact Or.inl x
      · exact Or.inr ⟨x.1, x.2.1, x.2.2.1, lab j x.2.2.2.1, x.2.2.2.2.1, x.2.2.2.2.2.1, x.2.2.2.2.2.2.1, x.2.2.2.2.2.2.2.1, by omega⟩
  · have hq2 : (q : Int) < 2 * r.1 0 0 0 := by rw [← e0]; exact hq
    by_cases e : q = p
    · subst e
      refine ⟨?_, hL, ?_⟩
      · have hQ2 := hQ
        unfold rQ at hQ2 ⊢
        obtain ⟨x1, x2, x3, x4, x5⟩ := hQ2
        rw [A48]
        have nk : ∀ i : Nat, (i : Int) < (N : Int) - 1 → ((if i < P then i else i + 1 : Nat) : Int) < a.1 4 q 8 ∧ (a.1 5 q (if i < P then i else i + 1)).toNat ≠ k := fun i hi => by
          have lt : ((if i < P then i else i + 1 : Nat) : Int) < a.1 4 q 8 := by split <;> omega
          refine ⟨lt, fun e => ?_⟩
          have := rQ_inj hQ lt (j := P) (by omega) (by omega)
          split at this <;> omega
        refine ⟨by omega, by omega, fun i hi => ?_, fun i j hij hj => ?_, fun j hj h1 h2 => ?_⟩
        · have z := nk i hi
          rw [A5 i hi, (E _ z.2).1, (E _ z.2).2.2.1]
          exact x3 _ z.1
        · have zi := nk i (by omega)
          have zj := nk j hj
          rw [A5 i (by omega), A5 j hj, (E _ zi.2).2.2.2, (E _ zj.2).2.2.2]
          exact x4 _ _ (by split <;> split <;> omega) zj.1
        · have nj : j ≠ k := fun e => by
            subst e
            omega
          have z := E j nj
          rw [z.1] at h1
          rw [z.2.2.1] at h2
          obtain ⟨i, hi, ei⟩ := x5 j hj h1 h2
          have ni : i ≠ P := fun e => by
            subst e
            omega
          by_cases c : i < P
          · exact ⟨i, by omega, by rw [A5 i (by omega), if_pos c]; exact ei⟩
          · refine ⟨i - 1, by omega, ?_⟩
            rw [A5 (i - 1) (by omega), if_neg (by omega), show i - 1 + 1 = i by omega]
            exact ei
      · unfold rO
        rw [A47]
        refine Or.inr ⟨by omega, by omega, k1, by rw [h28]; exact k28, fun j hj h1 h2 => ?_⟩
        by_cases e : j = k
        · rw [e]
        · have z := E j e
          rw [z.1] at h1
          rw [z.2.2.1] at h2
          rcases H.O hp with x | x
          · exact absurd h2 (x.2 j hj h1)
          · omega
    · have w := Aq q e
      have n28 : ¬ r.1 28 0 k = q := by omega
      exact ⟨othQ (k := k) E (fun x => n28 x.2) (fun x => by omega) (by rw [w.1]) w.2.1 (H.Q hq2), othL (k := k) E (fun x => n28 x.2) (fun x => by omega) (by rw [w.1]) (by rw [w.1]) w.2.2.1 w.2.2.2 e9 (by rw [R37]; omega) (by omega) (fun f hf => by rw [R0 31 (by decide) (by decide) (by decide) (by decide) (by decide), R0 33 (by decide) (by decide) (by decide) (by decide) (by decide), R32 q f e hf]; exact ⟨rfl, rfl, rfl⟩) (H.L hq2), othO (k := k) E (fun x => n28 x.2) (fun x => n28 (by rw [← h28]; exact x.2)) (by rw [w.1]) (H.O hq2)⟩
  · have s19 := R0 19 (by decide) (by decide) (by decide) (by decide) (by decide)
    have s20 := R0 20 (by decide) (by decide) (by decide) (by decide) (by decide)
    have s21 := R0 21 (by decide) (by decide) (by decide) (by decide) (by decide)
    have s22 := R0 22 (by decide) (by decide) (by decide) (by decide) (by decide)
    refine rA_set (s0 := 6 + k) (kd := 2) (tk := tk) H.A (by decide) (fun s hs => by rw [A13, if_neg hs]) (by rw [A13, if_pos rfl]) (fun s hs => by rw [A14, if_neg hs]) (by rw [A14, if_pos rfl]) (fun s hs => by rw [A15, if_neg hs]) (by rw [A15, if_pos rfl]) A12 (by omega) (fun s hs ne => ?_) ?_ (fun s hs ne _ => ?_) ⟨?_, htk⟩ ?_ (by omega) (by omega)
    · by_cases c : s < 6
      · unfold rk
        rw [if_pos c, if_pos c, e9, s19, s21]
      · obtain ⟨j, rfl⟩ : ∃ j, s = 6 + j := ⟨s - 6, by omega⟩
        rw [rk_k, rk_k, (E j (by omega)).1]
    · rw [rk_k, if_neg (by omega), k1]
      rfl
    · by_cases c : s < 6
      · rw [rt_f c, rt_f c, ru_f c, ru_f c, s19, s20, s21, s22]
        exact ⟨rfl, rfl⟩
      · obtain ⟨j, rfl⟩ : ∃ j, s = 6 + j := ⟨s - 6, by omega⟩
        rw [rt_k, rt_k, ru_k, ru_k, R29, if_neg (by omega), R30, if_neg (by omega)]
        exact ⟨rfl, rfl⟩
    · rw [rt_k, R29, if_pos rfl]
    · rw [ru_k, R30, if_pos rfl, R37]
      omega
/-- the list behind a take: the flow has more packets at the port -/
theorem keepL (hLL : rL a r p) (hL : a.1 6 p 0 = L) (hm : 0 < a.1 4 p 9) (h10 : a.1 4 p 10 = 1) (hf6 : r.1 0 0 9 ≤ 6) (k25 : r.1 25 0 k = L) {d : Int} (hd : 0 ≤ d ∧ d ≤ 23) (more : ∃ j, j < 64 ∧ j ≠ k ∧ r.1 24 0 j = 1 ∧ r.1 28 0 j = p ∧ r.1 25 0 j = L)
    (A9 : a1.1 4 p 9 = a.1 4 p 9) (A10 : a1.1 4 p 10 = a.1 4 p 10) (A6 : a1.1 6 p = a.1 6 p) (A7 : ∀ g, a1.1 7 p g = if g = L then d else a.1 7 p g) (R24 : ∀ j, r1.1 24 0 j = if j = k then 2 else r.1 24 0 j) (R25 : r1.1 25 = r.1 25) (R28 : r1.1 28 = r.1 28) (R31 : r1.1 31 = r.1 31) (R33 : r1.1 33 = r.1 33) (R32 : ∀ g, g < 6 → r1.1 32 0 (6 * p + g) = if g = L then d else r.1 32 0 (6 * p + g)) (R9 : r1.1 0 0 9 = r.1 0 0 9) (R37 : r.1 0 0 37 ≤ r1.1 0 0 37) : rL a1 r1 p := by
  have hLL2 := hLL
  unfold rL at hLL2 ⊢
  obtain ⟨x1, x2, x3, x4, x5, x6, x7, x8⟩ := hLL2
  rw [A9, A10, A6, R25, R28, R31, R33, R9]
  refine ⟨x1, x2, x3, x4, fun i hi => ?_, x6, fun j hj h1 h2 => ?_, fun f hf hn => ?_⟩
  · have y := x5 i hi
    rw [A7, R32 _ (by omega)]
    by_cases e : (a.1 6 p i).toNat = L
    · have ei : i = 0 := rL_inj hLL hi (by omega) (by omega)
      subst ei
      have if23 : (if (0 : Nat) = 0 ∧ a.1 4 p 10 = 1 then (23 : Int) else 7) = 23 := if_pos ⟨rfl, h10⟩
      rw [if_pos e, if_pos e, if23]
      obtain ⟨j, j1, j2, j3, j4, j5⟩ := more
      exact ⟨y.1, y.2.1, ⟨j, j1, by rw [R24, if_neg j2]; exact j3, j4, by omega⟩, rfl, y.2.2.2.2.1, by omega, hd.1, hd.2, y.2.2.2.2.2.2.2.2⟩
    · rw [if_neg e, if_neg e]
      obtain ⟨j, j1, j2, j3, j4⟩ := y.2.2.1
      have nj : j ≠ k := fun q => by
        subst q
        omega
      exact ⟨y.1, y.2.1, ⟨j, j1, by rw [R24, if_neg nj]; exact j2, j3, j4⟩, y.2.2.2.1, y.2.2.2.2.1, by omega, y.2.2.2.2.2.2⟩
  · have nj : j ≠ k := fun q => by
      subst q
      rw [R24, if_pos rfl] at h1
      omega
    rw [R24, if_neg nj] at h1
    exact x7 j hj h1 h2
  · rw [A7, if_neg (fun e => hn 0 (by omega) (by omega))]
    exact x8 f hf hn
/-- the list behind a take: it was the flow's last packet at the port -/
theorem dropL (hLL : rL a r p) (hL : a.1 6 p 0 = L) {m : Nat} (hm : a.1 4 p 9 = (m : Int) + 1) (hf6 : r.1 0 0 9 ≤ 6) (k25 : r.1 25 0 k = L) {d : Int} (none' : ∀ j, j < 64 → j ≠ k → r.1 24 0 j = 1 → r.1 28 0 j = p → r.1 25 0 j ≠ L)
    (A9 : a1.1 4 p 9 = m) (A10 : a1.1 4 p 10 = 0) (A6 : ∀ i, i < m → a1.1 6 p i = a.1 6 p (i + 1)) (A7 : ∀ g, a1.1 7 p g = if g = L then 0 else a.1 7 p g) (R24 : ∀ j, r1.1 24 0 j = if j = k then 2 else r.1 24 0 j) (R25 : r1.1 25 = r.1 25) (R28 : r1.1 28 = r.1 28) (R31 : r1.1 31 = r.1 31) (R33 : r1.1 33 = r.1 33) (R32 : ∀ g, g < 6 → r1.1 32 0 (6 * p + g) = if g = L then d else r.1 32 0 (6 * p + g)) (R9 : r1.1 0 0 9 = r.1 0 0 9) (R37 : r.1 0 0 37 ≤ r1.1 0 0 37) : rL a1 r1 p := by
  have hLL2 := hLL
  unfold rL at hLL2 ⊢
  obtain ⟨x1, x2, x3, x4, x5, x6, x7, x8⟩ := hLL2
  rw [A9, A10, R25, R28, R31, R33, R9]
  have nL : ∀ i : Nat, i < m → (a.1 6 p (i + 1)).toNat ≠ L := fun i hi e => by
    have y := x5 (i + 1) (by omega)
    have := rL_inj hLL (i := i + 1) (j := 0) (by omega) (by omega) (by omega)
    omega
  refine ⟨by omega, by omega, Or.inl rfl, fun _ => rfl, fun i hi => ?_, fun i j hij hj => ?_, fun j hj h1 h2 => ?_, fun f hf hn => ?_⟩
  · have hi2 : i < m := by omega
    have y := x5 (i + 1) (by omega)
    have ne := nL i hi2
    have ifA : (if i = 0 then (0 : Int) else 0) = 0 := by split <;> rfl
    have ifB : (if i = 0 ∧ (0 : Int) = 1 then (23 : Int) else 7) = 7 := if_neg (fun q => absurd q.2 (by decide))
    rw [A6 i hi2, ifA, ifB, A7, R32 _ (by omega), if_neg ne, if_neg ne]
    have y5 := y.2.2.2.2.1
    rw [if_neg (by omega)] at y5
    have y8 := y.2.2.2.2.2.2.2.1
    rw [if_neg (by omega)] at y8
    obtain ⟨j, j1, j2, j3, j4⟩ := y.2.2.1
    have nj : j ≠ k := fun q => by
      subst q
      omega
    exact ⟨y.1, y.2.1, ⟨j, j1, by rw [R24, if_neg nj]; exact j2, j3, j4⟩, y.2.2.2.1, y5, by omega, y.2.2.2.2.2.2.1, y8, y.2.2.2.2.2.2.2.2⟩
  · rw [A6 i (by omega), A6 j (by omega)]
    exact x6 (i + 1) (j + 1) (by omega) (by omega)
  · have nj : j ≠ k := fun q => by
      subst q
      rw [R24, if_pos rfl] at h1
      omega
    rw [R24, if_neg nj] at h1
    obtain ⟨i, hi, e⟩ := x7 j hj h1 h2
    have ni : i ≠ 0 := fun q => by
      subst q
      exact none' j hj nj h1 h2 (by omega)
    refine ⟨i - 1, by omega, ?_⟩
    rw [A6 (i - 1) (by omega), show i - 1 + 1 = i by omega]
    exact e
  · rw [A7]
    by_cases e : f = L
    · rw [if_pos e]
    · rw [if_neg e]
      refine x8 f hf (fun i hi ei => ?_)
      have ni : i ≠ 0 := fun q => by
        subst q
        omega
      exact hn (i - 1) (by omega) (by rw [A6 (i - 1) (by omega), show i - 1 + 1 = i by omega]; exact ei)
end TAKE
