/-! ===== a port's list alone changes ===== -/
theorem cN_if (z : MemI) (kc ki c i k : Nat) (sp dp ln : Int) : (cN z kc ki sp dp ln).1 c i k = if c = kc ∧ i = ki ∧ dp.toNat ≤ k ∧ k < dp.toNat + ln.toNat then z.1 kc ki (sp.toNat + (k - dp.toNat)) else z.1 c i k := rfl
theorem cN_ne {z : MemI} {kc ki c i k : Nat} {sp dp ln : Int} (hn : ¬ (c = kc ∧ i = ki)) : (cN z kc ki sp dp ln).1 c i k = z.1 c i k := by
  rw [cN_if, if_neg (fun q => hn ⟨q.1, q.2.1⟩)]
section SERVE
variable {B B1 : Int} {h : Nat} {a a1 r r1 : MemI} {p : Nat}
theorem Rel.setL (H : Rel B h a r) (hB : B ≤ B1)
    (A0 : ∀ c, c ≠ 4 → c ≠ 6 → c ≠ 7 → a1.1 c = a.1 c) (A2 : a1.2 = a.2) (A4 : ∀ q j, q ≠ p ∨ (j ≠ 9 ∧ j ≠ 10) → a1.1 4 q j = a.1 4 q j) (A6 : ∀ q, q ≠ p → a1.1 6 q = a.1 6 q ∧ a1.1 7 q = a.1 7 q)
    (R0 : ∀ c, c ≠ 0 → c ≠ 31 → c ≠ 32 → c ≠ 33 → r1.1 c = r.1 c) (R1 : ∀ j, j ≠ 37 → r1.1 0 0 j = r.1 0 0 j) (R37 : r.1 0 0 37 ≤ r1.1 0 0 37 ∧ r1.1 0 0 37 ≤ B1) (R2 : r1.2 = r.2)
    (R3 : ∀ q f, q ≠ p → f < 6 → r1.1 31 0 (6 * q + f) = r.1 31 0 (6 * q + f) ∧ r1.1 32 0 (6 * q + f) = r.1 32 0 (6 * q + f) ∧ r1.1 33 0 (6 * q + f) = r.1 33 0 (6 * q + f)) (hL : rL a1 r1 p) : Rel B1 h a1 r1 := by
  have e0 := R1 0 (by decide)
  have e9 := R1 9 (by decide)
  have h24 := R0 24 (by decide) (by decide) (by decide) (by decide)
  have h25 := R0 25 (by decide) (by decide) (by decide) (by decide)
  have h28 := R0 28 (by decide) (by decide) (by decide) (by decide)
  have h30 := R0 30 (by decide) (by decide) (by decide) (by decide)
  have hG := H.G
  refine ⟨?_, rK_c (fun q j hj => A4 q j (Or.inr (by omega))) e0 (R0 1 (by decide) (by decide) (by decide) (by decide)) (R0 2 (by decide) (by decide) (by decide) (by decide)) (R0 3 (by decide) (by decide) (by decide) (by decide)) (R0 4 (by decide) (by decide) (by decide) (by decide)) (R0 5 (by decide) (by decide) (by decide) (by decide)) H.K,
    rS_c (fun q => ⟨A4 q 5 (Or.inr (by omega)), A4 q 6 (Or.inr (by omega))⟩) e0 (R0 6 (by decide) (by decide) (by decide) (by decide)) (R0 7 (by decide) (by decide) (by decide) (by decide)) H.S,
    rD_c (A0 2 (by decide) (by decide) (by decide)) e0 (R0 1 (by decide) (by decide) (by decide) (by decide)) (R0 2 (by decide) (by decide) (by decide) (by decide)) (R0 3 (by decide) (by decide) (by decide) (by decide)) (R0 8 (by decide) (by decide) (by decide) (by decide)) H.D,
    rF_c (A0 9 (by decide) (by decide) (by decide)) e9 (fun c h1 h2 => R0 c (by omega) (by omega) (by omega) (by omega)) (R0 23 (by decide) (by decide) (by decide) (by decide)) hB H.F,
    rP_c (A0 11 (by decide) (by decide) (by decide)) (by rw [e0]; omega) (by rw [e9]; omega) (fun f _ => by rw [R0 9 (by decide) (by decide) (by decide) (by decide), R0 10 (by decide) (by decide) (by decide) (by decide), R0 12 (by decide) (by decide) (by decide) (by decide)]; exact ⟨rfl, rfl, rfl⟩) h24 h25 (R0 26 (by decide) (by decide) (by decide) (by decide)) (R0 27 (by decide) (by decide) (by decide) (by decide)) h28 h30 R37.1 H.P,
    fun q hq => ?_,
    rA_c (by rw [A0 12 (by decide) (by decide) (by decide)]) (A0 13 (by decide) (by decide) (by decide)) (A0 14 (by decide) (by decide) (by decide)) (A0 15 (by decide) (by decide) (by decide)) e9 (R0 19 (by decide) (by decide) (by decide) (by decide)) (R0 20 (by decide) (by decide) (by decide) (by decide)) (R0 21 (by decide) (by decide) (by decide) (by decide)) (R0 22 (by decide) (by decide) (by decide) (by decide)) h24 (R0 29 (by decide) (by decide) (by decide) (by decide)) h30 R37.1 hB H.A,
    rN_c (fun k => by rw [A0 11 (by decide) (by decide) (by decide)]) e9 (R1 35 (by decide)) (R0 19 (by decide) (by decide) (by decide) (by decide)) (R0 21 (by decide) (by decide) (by decide) (by decide)) h25 H.N, rT_c A2 R2 (R1 38 (by decide)) H.T⟩
  · unfold rG at *
    rw [A0 0 (by decide) (by decide) (by decide), A0 12 (by decide) (by decide) (by decide), e0, e9, R1 36 (by decide), R1 35 (by decide), R1 38 (by decide)]
    omega
  · have hq2 : (q : Int) < 2 * r.1 0 0 0 := by rw [← e0]; exact hq
    refine ⟨rQ_c (A4 q 8 (Or.inr (by omega))) (A0 5 (by decide) (by decide) (by decide)) h24 h28 h30 (H.Q hq2), ?_, rO_c (A4 q 7 (Or.inr (by omega))) h24 h28 (H.O hq2)⟩
    by_cases e : q = p
    · subst e
      exact hL
    · have x := H.L hq2
      have a6 := A6 q e
      unfold rG at hG
      unfold rL at x ⊢
      rw [A4 q 9 (Or.inl e), A4 q 10 (Or.inl e), a6.1, a6.2, h24, h25, h28, e9]
      obtain ⟨x1, x2, x3, x4, x5, x6, x7, x8⟩ := x
      have s5 : ∀ i : Nat, (i : Int) < a.1 4 q 9 → (a.1 6 q i).toNat < 6 := fun i hi => by
        have := x5 i hi
        omega
      refine ⟨x1, x2, x3, x4, fun i hi => ?_, fun i j hij hj => ?_, x7, x8⟩
      · have y := x5 i hi
        have z := R3 q _ e (s5 i hi)
        rw [z.1, z.2.1, z.2.2]
        exact ⟨y.1, y.2.1, y.2.2.1, y.2.2.2.1, y.2.2.2.2.1, by omega, y.2.2.2.2.2.2⟩
      · rw [(R3 q _ e (s5 i (by omega))).1, (R3 q _ e (s5 j hj)).1]
        exact x6 i j hij hj
/-- the first flow of the list is served, if it is not -/
theorem serve (H : Rel B h a r) (hp : (p : Int) < 2 * r.1 0 0 0) {L : Nat} (hL : a.1 6 p 0 = L) (hm : 0 < a.1 4 p 9) : ∃ aS : MemI, di_P_serveFirst p a = some aS ∧
    Rel B h aS (pN (pN r 32 0 (6 * p + L) (a.1 7 p L + (if a.1 4 p 10 = 0 then a.1 4 p 5 else 0))) 33 0 (6 * p + L) 1) ∧ aS.1 4 p 10 = 1 ∧ (∀ g, aS.1 7 p g = if g = L then a.1 7 p L + (if a.1 4 p 10 = 0 then a.1 4 p 5 else 0) else a.1 7 p g) ∧ (∀ j, j ≠ 10 → aS.1 4 p j = a.1 4 p j) ∧ (∀ c, c ≠ 4 → c ≠ 7 → aS.1 c = a.1 c) ∧ aS.2 = a.2 ∧ (∀ q, q ≠ p → aS.1 4 q = a.1 4 q) := by
  have hG := H.G
  have hLL := H.L hp
  have hS := H.S p hp
  unfold rG at hG
  have hLL2 := hLL
  unfold rL at hLL2
  obtain ⟨x1, x2, x3, x4, x5, x6, x7, x8⟩ := hLL2
  have y0 := x5 0 (by omega)
  have eL : (a.1 6 p 0).toNat = L := by omega
  rw [eL] at y0
  by_cases c : a.1 4 p 10 = 0
  · rw [if_pos c]
    refine ⟨pN (pN a 7 p L (a.1 7 p L + a.1 4 p 5)) 4 p 10 1, ?_, ?_, pN_at _ _ _ _ _, fun g => ?_, fun j hj => ?_, fun c4 h4 h7 => ?_, rfl, fun q hq => ?_⟩
    · exact rgb (by omega) (itp c (azb (j := 0) rfl (by omega) (azb (j := L) hL (by omega) (azb (j := L) hL (by omega) (stNb (bz1b (stNb rfl)))))))
    · refine H.setL (p := p) (Int.le_refl _) (fun c4 h4 h6 h7 => ?_) rfl (fun q j hq => ?_) (fun q hq => ⟨?_, ?_⟩) (fun c4 h0 h31 h32 h33 => ?_) (fun j hj => rfl) ⟨Int.le_refl _, by show r.1 0 0 37 ≤ B; omega⟩ rfl (fun q f hq hf => ?_) ?_
      · funext i k
        rw [pN_ne (fun q => h4 q.1), pN_ne (fun q => h7 q.1)]
      · rw [pN_ne (by omega), pN_ne (by omega)]
      · funext k
        rw [pN_ne (by omega), pN_ne (by omega)]
      · funext k
        rw [pN_ne (by omega), pN_ne (by omega)]
      · funext i k
        rw [pN_ne (fun q => h33 q.1), pN_ne (fun q => h32 q.1)]
      · rw [pN_ne (by omega), pN_ne (by omega), pN_ne (by omega), pN_ne (by omega), pN_ne (by omega), pN_ne (by omega)]
        exact ⟨rfl, rfl, rfl⟩
      · have g9 : (pN (pN a 7 p L (a.1 7 p L + a.1 4 p 5)) 4 p 10 1).1 4 p 9 = a.1 4 p 9 := by rw [pN_ne (by omega), pN_ne (by omega)]
        have g10 : (pN (pN a 7 p L (a.1 7 p L + a.1 4 p 5)) 4 p 10 1).1 4 p 10 = 1 := pN_at _ _ _ _ _
        have g6 : (pN (pN a 7 p L (a.1 7 p L + a.1 4 p 5)) 4 p 10 1).1 6 = a.1 6 := rfl
        have g7 : ∀ g, (pN (pN a 7 p L (a.1 7 p L + a.1 4 p 5)) 4 p 10 1).1 7 p g = if g = L then a.1 7 p L + a.1 4 p 5 else a.1 7 p g := fun g => by
          rw [pN_ne (by omega), pN_if]
          by_cases e : g = L
          · rw [if_pos e, if_pos ⟨rfl, rfl, e⟩]
          · rw [if_neg e, if_neg (fun q => e q.2.2)]
        have r32 : ∀ g, (pN (pN r 32 0 (6 * p + L) (a.1 7 p L + a.1 4 p 5)) 33 0 (6 * p + L) 1).1 32 0 (6 * p + g) = if g = L then a.1 7 p L + a.1 4 p 5 else r.1 32 0 (6 * p + g) := fun g => by
          rw [pN_ne (by omega), pN_if]
          by_cases e : g = L
          · rw [if_pos e, if_pos ⟨rfl, rfl, by omega⟩]
          · rw [if_neg e, if_neg (by omega)]
        have r33 : ∀ g, (pN (pN r 32 0 (6 * p + L) (a.1 7 p L + a.1 4 p 5)) 33 0 (6 * p + L) 1).1 33 0 (6 * p + g) = if g = L then 1 else r.1 33 0 (6 * p + g) := fun g => by
          rw [pN_if]
          by_cases e : g = L
          · rw [if_pos e, if_pos ⟨rfl, rfl, by omega⟩]
          · rw [if_neg e, if_neg (by omega), pN_ne (by omega)]
        unfold rL
        rw [g9, g10, g6]
        refine ⟨x1, x2, Or.inr rfl, fun q => by omega, fun i hi => ?_, x6, x7, fun f hf hn => ?_⟩
        · have y := x5 i hi
          rw [g7, r32, r33]
          by_cases e : (a.1 6 p i).toNat = L
          · have ei : i = 0 := rL_inj hLL hi (by omega) (by omega)
            subst ei
            rw [if_pos e, if_pos e, if_pos e, if_pos rfl, if_pos ⟨rfl, rfl⟩]
            refine ⟨y.1, y.2.1, y.2.2.1, rfl, rfl, y.2.2.2.2.2.1, ?_, ?_, y.2.2.2.2.2.2.2.2⟩
            · omega
            · have := y0.2.2.2.2.2.2.2.1
              rw [if_neg (by omega)] at this
              omega
          · have ei : i ≠ 0 := fun q => by
              subst q
              exact e eL
            rw [if_neg e, if_neg e, if_neg e, if_neg ei, if_neg (fun q => ei q.1)]
            have y5 := y.2.2.2.2.1
            rw [if_neg ei] at y5
            have y8 := y.2.2.2.2.2.2.2.1
            rw [if_neg (fun q => ei q.1)] at y8
            exact ⟨y.1, y.2.1, y.2.2.1, y.2.2.2.1, y5, y.2.2.2.2.2.1, y.2.2.2.2.2.2.1, y8, y.2.2.2.2.2.2.2.2⟩
        · rw [g7, if_neg (fun e => hn 0 (by omega) (by omega))]
          exact x8 f hf hn
    · rw [pN_ne (by omega), pN_if]
      by_cases e : g = L
      · rw [if_pos e, if_pos ⟨rfl, rfl, e⟩]
      · rw [if_neg e, if_neg (fun q => e q.2.2)]
    · rw [pN_ne (by omega), pN_ne (by omega)]
    · funext i k
      rw [pN_ne (fun q => h4 q.1), pN_ne (fun q => h7 q.1)]
    · funext k
      rw [pN_ne (by omega), pN_ne (by omega)]
  · have c1 : a.1 4 p 10 = 1 := by omega
    rw [if_neg c, Int.add_zero]
    refine ⟨a, ?_, ?_, c1, fun g => ?_, fun _ _ => rfl, fun _ _ _ => rfl, rfl, fun _ _ => rfl⟩
    · exact rgb (by omega) (itn c rfl)
    · have k32 : ∀ k, (pN (pN r 32 0 (6 * p + L) (a.1 7 p L)) 33 0 (6 * p + L) 1).1 32 0 k = r.1 32 0 k := fun k => by
        rw [pN_ne (by omega), pN_if]
        by_cases e : k = 6 * p + L
        · rw [if_pos ⟨rfl, rfl, e⟩, e]
          exact y0.2.2.2.1
        · rw [if_neg (fun q => e q.2.2)]
      have k33 : ∀ k, (pN (pN r 32 0 (6 * p + L) (a.1 7 p L)) 33 0 (6 * p + L) 1).1 33 0 k = r.1 33 0 k := fun k => by
        rw [pN_if]
        by_cases e : k = 6 * p + L
        · rw [if_pos ⟨rfl, rfl, e⟩, e]
          have y5 := y0.2.2.2.2.1
          rw [if_pos rfl] at y5
          omega
        · rw [if_neg (fun q => e q.2.2), pN_ne (by omega)]
      refine H.setL (p := p) (Int.le_refl _) (fun _ _ _ _ => rfl) rfl (fun _ _ _ => rfl) (fun _ _ => ⟨rfl, rfl⟩) (fun c4 h0 h31 h32 h33 => ?_) (fun j hj => rfl) ⟨Int.le_refl _, by show r.1 0 0 37 ≤ B; omega⟩ rfl (fun q f hq hf => ⟨rfl, k32 _, k33 _⟩) ?_
      · funext i k
        rw [pN_ne (fun q => h33 q.1), pN_ne (fun q => h32 q.1)]
      · unfold rL
        simp only [k32, k33]
        exact ⟨x1, x2, x3, x4, x5, x6, x7, x8⟩
    · by_cases e : g = L
      · rw [if_pos e, e]
      · rw [if_neg e]
/-- the served first flow goes to the end -/
theorem rotate (H : Rel B h a r) (hp : (p : Int) < 2 * r.1 0 0 0) {L : Nat} (hL : a.1 6 p 0 = L) (hm : 0 < a.1 4 p 9) (hd : a.1 7 p L ≤ 7) : ∃ a1 : MemI, (∃ z7, di_P_dropFirst p a = some z7 ∧ di_P_append p L z7 = some a1) ∧
    Rel (B + 1) h a1 (pN (pN (pN r 0 0 37 (r.1 0 0 37 + 1)) 31 0 (6 * p + L) (r.1 0 0 37 + 1)) 33 0 (6 * p + L) 0) ∧ a1.1 4 p 10 = 0 ∧ (∀ g, a1.1 7 p g = a.1 7 p g) ∧ a1.1 4 p 7 = a.1 4 p 7 ∧ a1.1 4 p 8 = a.1 4 p 8 ∧ a1.1 4 p 9 = a.1 4 p 9 ∧ a1.1 0 = a.1 0 := by
  have hG := H.G
  have hLL := H.L hp
  unfold rG at hG
  have hLL2 := hLL
  unfold rL at hLL2
  obtain ⟨x1, x2, x3, x4, x5, x6, x7, x8⟩ := hLL2
  have y0 := x5 0 (by omega)
  have eL : (a.1 6 p 0).toNat = L := by omega
  rw [eL] at y0
  obtain ⟨m, hm9⟩ : ∃ m : Nat, a.1 4 p 9 = (m : Int) + 1 := ⟨(a.1 4 p 9 - 1).toNat, by omega⟩
  generalize hz7 : pN (cN (pN a 4 p 9 (m : Int)) 6 p 1 0 (m : Int)) 4 p 10 0 = z7
  have z79 : z7.1 4 p 9 = m := by
    rw [← hz7, pN_ne (by omega), cN_ne (by omega), pN_at]
  have e1 : di_P_dropFirst p a = some z7 := by
    refine rgb (by omega) (itn (by omega) (stNb ?_))
    have w : a.1 4 p 9 - 1 = (m : Int) := by omega
    rw [w]
    have w2 : (pN a 4 p 9 (m : Int)).1 4 p 9 = m := pN_at _ _ _ _ _
    rw [w2]
    refine acb (by omega) (stNb (bz0b (stNb ?_)))
    rw [hz7]
  have e2 : di_P_append p L z7 = some (pN (pN z7 6 p m L) 4 p 9 ((m : Int) + 1)) := by
    refine rgb (by omega) (itn (by omega) (azb (j := m) z79 (by omega) (stNb (stNb ?_))))
    rw [pN_ne (by omega), z79]
  have q9 : (pN (pN z7 6 p m L) 4 p 9 ((m : Int) + 1)).1 4 p 9 = a.1 4 p 9 := by rw [pN_at, hm9]
  have q10 : (pN (pN z7 6 p m L) 4 p 9 ((m : Int) + 1)).1 4 p 10 = 0 := by rw [pN_ne (by omega), pN_ne (by omega), ← hz7, pN_at]
  have q4 : ∀ q j, q ≠ p ∨ (j ≠ 9 ∧ j ≠ 10) → (pN (pN z7 6 p m L) 4 p 9 ((m : Int) + 1)).1 4 q j = a.1 4 q j := fun q j hq => by
    rw [pN_ne (by omega), pN_ne (by omega), ← hz7, pN_ne (by omega), cN_ne (by omega), pN_ne (by omega)]
  have q6 : ∀ i, (pN (pN z7 6 p m L) 4 p 9 ((m : Int) + 1)).1 6 p i = if i = m then (L : Int) else if i < m then a.1 6 p (i + 1) else a.1 6 p i := fun i => by
    rw [pN_ne (by omega), pN_if]
    by_cases e : i = m
    · rw [if_pos e, if_pos ⟨rfl, rfl, e⟩]
    · rw [if_neg e, if_neg (fun q => e q.2.2), ← hz7, pN_ne (by omega), cN_if]
      by_cases c : i < m
      · rw [if_pos c, if_pos ⟨rfl, rfl, by omega, by omega⟩, pN_ne (by omega)]
        rw [show (1 : Int).toNat + (i - (0 : Int).toNat) = i + 1 by omega]
      · rw [if_neg c, if_neg (by omega), pN_ne (by omega)]
  have q7 : (pN (pN z7 6 p m L) 4 p 9 ((m : Int) + 1)).1 7 = a.1 7 := by
    rw [← hz7]
    rfl
  have qo : ∀ c, c ≠ 4 → c ≠ 6 → c ≠ 7 → (pN (pN z7 6 p m L) 4 p 9 ((m : Int) + 1)).1 c = a.1 c := fun c h4 h6 _ => by
    funext i k
    rw [pN_ne (fun q => h4 q.1), pN_ne (fun q => h6 q.1), ← hz7, pN_ne (fun q => h4 q.1), cN_ne (fun q => h6 q.1), pN_ne (fun q => h4 q.1)]
  have t31 : ∀ g, (pN (pN (pN r 0 0 37 (r.1 0 0 37 + 1)) 31 0 (6 * p + L) (r.1 0 0 37 + 1)) 33 0 (6 * p + L) 0).1 31 0 (6 * p + g) = if g = L then r.1 0 0 37 + 1 else r.1 31 0 (6 * p + g) := fun g => by
    rw [pN_ne (by omega), pN_if]
    by_cases e : g = L
    · rw [if_pos e, if_pos ⟨rfl, rfl, by omega⟩]
    · rw [if_neg e, if_neg (by omega), pN_ne (by omega)]
  have t33 : ∀ g, (pN (pN (pN r 0 0 37 (r.1 0 0 37 + 1)) 31 0 (6 * p + L) (r.1 0 0 37 + 1)) 33 0 (6 * p + L) 0).1 33 0 (6 * p + g) = if g = L then 0 else r.1 33 0 (6 * p + g) := fun g => by
    rw [pN_if]
    by_cases e : g = L
    · rw [if_pos e, if_pos ⟨rfl, rfl, by omega⟩]
    · rw [if_neg e, if_neg (by omega), pN_ne (by omega), pN_ne (by omega)]
  refine ⟨pN (pN z7 6 p m L) 4 p 9 ((m : Int) + 1), ⟨z7, e1, e2⟩, ?_, q10, fun g => by rw [q7], q4 p 7 (Or.inr (by omega)), q4 p 8 (Or.inr (by omega)), q9, qo 0 (by decide) (by decide) (by decide)⟩
  refine H.setL (p := p) (by omega) qo (by rw [← hz7]; rfl) q4 (fun q hq => ⟨?_, by rw [q7]⟩) (fun c4 h0 h31 h32 h33 => ?_) (fun j hj => ?_) ⟨?_, ?_⟩ rfl (fun q f hq hf => ?_) ?_
  · funext k
    rw [pN_ne (by omega), pN_ne (by omega), ← hz7, pN_ne (by omega), cN_ne (by omega), pN_ne (by omega)]
  · funext i k
    rw [pN_ne (fun q => h33 q.1), pN_ne (fun q => h31 q.1), pN_ne (fun q => h0 q.1)]
  · rw [pN_ne (by omega), pN_ne (by omega), pN_ne (by omega)]
  · rw [pN_ne (by omega), pN_ne (by omega), pN_at]
    omega
  · rw [pN_ne (by omega), pN_ne (by omega), pN_at]
    omega
  · rw [pN_ne (by omega), pN_ne (by omega), pN_ne (by omega), pN_ne (by omega), pN_ne (by omega), pN_ne (by omega), pN_ne (by omega), pN_ne (by omega), pN_ne (by omega)]
    exact ⟨rfl, rfl, rfl⟩
  · have t37 : (pN (pN (pN r 0 0 37 (r.1 0 0 37 + 1)) 31 0 (6 * p + L) (r.1 0 0 37 + 1)) 33 0 (6 * p + L) 0).1 0 0 37 = r.1 0 0 37 + 1 := by rw [pN_ne (by omega), pN_ne (by omega), pN_at]
    have u24 : (pN (pN (pN r 0 0 37 (r.1 0 0 37 + 1)) 31 0 (6 * p + L) (r.1 0 0 37 + 1)) 33 0 (6 * p + L) 0).1 24 = r.1 24 := rfl
    have u25 : (pN (pN (pN r 0 0 37 (r.1 0 0 37 + 1)) 31 0 (6 * p + L) (r.1 0 0 37 + 1)) 33 0 (6 * p + L) 0).1 25 = r.1 25 := rfl
    have u28 : (pN (pN (pN r 0 0 37 (r.1 0 0 37 + 1)) 31 0 (6 * p + L) (r.1 0 0 37 + 1)) 33 0 (6 * p + L) 0).1 28 = r.1 28 := rfl
    have u32 : (pN (pN (pN r 0 0 37 (r.1 0 0 37 + 1)) 31 0 (6 * p + L) (r.1 0 0 37 + 1)) 33 0 (6 * p + L) 0).1 32 = r.1 32 := rfl
    have u09 : (pN (pN (pN r 0 0 37 (r.1 0 0 37 + 1)) 31 0 (6 * p + L) (r.1 0 0 37 + 1)) 33 0 (6 * p + L) 0).1 0 0 9 = r.1 0 0 9 := rfl
    have nL : ∀ i : Nat, (i : Int) < a.1 4 p 9 → i ≠ 0 → (a.1 6 p i).toNat ≠ L := fun i hi h0 e => h0 (rL_inj hLL hi (by omega) (by have := x5 i hi; omega))
    unfold rL
    rw [q9, q10, q7, t37, u24, u25, u28, u32, u09]
    refine ⟨x1, x2, Or.inl rfl, fun _ => rfl, fun i hi => ?_, fun i j hij hj => ?_, fun k hk k1 k2 => ?_, fun f hf hn => ?_⟩
    · rw [q6]
      have ifA : (if i = 0 then (0 : Int) else 0) = 0 := by split <;> rfl
      have ifB : (if i = 0 ∧ (0 : Int) = 1 then (23 : Int) else 7) = 7 := if_neg (fun q => absurd q.2 (by decide))
      rw [ifA, ifB]
      by_cases e : i = m
      · rw [if_pos e, show ((L : Int)).toNat = L from rfl, t31, t33, if_pos rfl, if_pos rfl]
        refine ⟨by omega, by rw [← hL]; exact y0.2.1, ?_, y0.2.2.2.1, rfl, by omega, y0.2.2.2.2.2.2.1, by omega, by omega⟩
        rw [← hL]
        exact y0.2.2.1
      · have c : i < m := by omega
        have y := x5 (i + 1) (by omega)
        have ne := nL (i + 1) (by omega) (by omega)
        rw [if_neg e, if_pos c, t31, t33, if_neg ne, if_neg ne]
        have y5 := y.2.2.2.2.1
        rw [if_neg (by omega)] at y5
        have y8 := y.2.2.2.2.2.2.2.1
        rw [if_neg (by omega)] at y8
        exact ⟨y.1, y.2.1, y.2.2.1, y.2.2.2.1, y5, by omega, y.2.2.2.2.2.2.1, y8, y.2.2.2.2.2.2.2.2⟩
    · rw [q6, q6, if_neg (by omega), if_pos (by omega)]
      have nei := nL (i + 1) (by omega) (by omega)
      rw [t31, if_neg nei]
      by_cases e : j = m
      · rw [if_pos e, show ((L : Int)).toNat = L from rfl, t31, if_pos rfl]
        have y := x5 (i + 1) (by omega)
        omega
      · have nej := nL (j + 1) (by omega) (by omega)
        rw [if_neg e, if_pos (by omega), t31, if_neg nej]
        exact x6 (i + 1) (j + 1) (by omega) (by omega)
    · obtain ⟨i, hi, e⟩ := x7 k hk k1 k2
      by_cases e0 : i = 0
      · subst e0
        exact ⟨m, by omega, by rw [q6, if_pos rfl, ← hL]; exact e⟩
      · refine ⟨i - 1, by omega, ?_⟩
        rw [q6, if_neg (by omega), if_pos (by omega), show i - 1 + 1 = i by omega]
        exact e
    · refine x8 f hf (fun i hi e => ?_)
      by_cases e0 : i = 0
      · subst e0
        exact hn m (by omega) (by rw [q6, if_pos rfl, ← hL]; exact e)
      · refine hn (i - 1) (by omega) ?_
        rw [q6, if_neg (by omega), if_pos (by omega), show i - 1 + 1 = i by omega]
        exact e
end SERVE
