/-! ===== flows' numbers alone change; make; timers; fill ===== -/
section MAKE
variable {B B1 : Int} {h : Nat} {a a1 r r1 : MemI} {f k : Nat} {n v ans : Int}
theorem Rel.setF (H : Rel B h a r) (hB : B ≤ B1) (A0 : ∀ c, c ≠ 9 → a1.1 c = a.1 c) (A2 : a1.2 = a.2) (R0 : ∀ c, c ≠ 16 → c ≠ 17 → c ≠ 18 → c ≠ 23 → r1.1 c = r.1 c) (R2 : r1.2 = r.2) (hF : rF B1 a1 r1) : Rel B1 h a1 r1 := by
  have r0 := R0 0 (by decide) (by decide) (by decide) (by decide)
  have a4 := A0 4 (by decide)
  have rc : ∀ c, c < 16 ∨ (18 < c ∧ c ≠ 23) → r1.1 c = r.1 c := fun c hc => R0 c (by omega) (by omega) (by omega) (by omega)
  exact ⟨rG_c (fun j => by rw [A0 0 (by decide)]) (by rw [A0 12 (by decide)]) (fun j => by rw [r0]) hB H.G, rK_c (fun p j _ => by rw [a4]) (by rw [r0]) (rc 1 (by omega)) (rc 2 (by omega)) (rc 3 (by omega)) (rc 4 (by omega)) (rc 5 (by omega)) H.K, rS_c (fun p => by rw [a4]; exact ⟨rfl, rfl⟩) (by rw [r0]) (rc 6 (by omega)) (rc 7 (by omega)) H.S, rD_c (A0 2 (by decide)) (by rw [r0]) (rc 1 (by omega)) (rc 2 (by omega)) (rc 3 (by omega)) (rc 8 (by omega)) H.D, hF,
    rP_c (A0 11 (by decide)) (by rw [r0]; omega) (by rw [r0]; omega) (fun g _ => by rw [rc 9 (by omega), rc 10 (by omega), rc 12 (by omega)]; exact ⟨rfl, rfl, rfl⟩) (rc 24 (by omega)) (rc 25 (by omega)) (rc 26 (by omega)) (rc 27 (by omega)) (rc 28 (by omega)) (rc 30 (by omega)) (by rw [r0]; omega) H.P,
    fun p hp => ⟨rQ_c (by rw [a4]) (A0 5 (by decide)) (rc 24 (by omega)) (rc 28 (by omega)) (rc 30 (by omega)) (H.Q (by rw [← r0]; exact hp)), rL_c (by rw [a4]) (by rw [a4]) (A0 6 (by decide)) (A0 7 (by decide)) (by rw [r0]; omega) (rc 24 (by omega)) (rc 25 (by omega)) (rc 28 (by omega)) (rc 31 (by omega)) (rc 32 (by omega)) (rc 33 (by omega)) (by rw [r0]; omega) (H.L (by rw [← r0]; exact hp)), rO_c (by rw [a4]) (rc 24 (by omega)) (rc 28 (by omega)) (H.O (by rw [← r0]; exact hp))⟩,
    rA_c (by rw [A0 12 (by decide)]) (A0 13 (by decide)) (A0 14 (by decide)) (A0 15 (by decide)) (by rw [r0]) (rc 19 (by omega)) (rc 20 (by omega)) (rc 21 (by omega)) (rc 22 (by omega)) (rc 24 (by omega)) (rc 29 (by omega)) (rc 30 (by omega)) (by rw [r0]; omega) hB H.A, rN_c (fun j => by rw [A0 11 (by decide)]) (by rw [r0]) (by rw [r0]) (rc 19 (by omega)) (rc 21 (by omega)) (rc 25 (by omega)) H.N, rT_c A2 R2 (by rw [r0]) H.T⟩
/-- one tally grows -/
theorem tally_rel (H : Rel B h a r) {sl tl : Nat} (ht : tl < 4) (hsl : sl = 10 + tl) : Rel (B + 1) h (pN a 9 f sl (a.1 9 f sl + 1)) (pN r 23 0 (4 * f + tl) (r.1 23 0 (4 * f + tl) + 1)) := by
  refine H.setF (by omega) (fun c hc => ?_) rfl (fun c h16 h17 h18 h23 => ?_) rfl (fun g hg => ?_)
  · funext i j
    rw [pN_ne (fun q => hc q.1)]
  · funext i j
    rw [pN_ne (fun q => h23 q.1)]
  · have x := H.F g hg
    subst hsl
    rcases (show tl = 0 ∨ tl = 1 ∨ tl = 2 ∨ tl = 3 by omega) with rfl | rfl | rfl | rfl
    · simp only [pN_if]
      by_cases e : g = f
      · subst e
        simp
        omega
      · have z0 : ¬ 4 * g = 4 * f + 0 := by omega
        have z1 : ¬ 4 * g + 1 = 4 * f + 0 := by omega
        have z2 : ¬ 4 * g + 2 = 4 * f + 0 := by omega
        have z3 : ¬ 4 * g + 3 = 4 * f + 0 := by omega
        simp only [z0, z1, z2, z3, e, and_false, false_and, if_false]
        simp
        omega
    · simp only [pN_if]
      by_cases e : g = f
      · subst e
        simp
        omega
      · have z0 : ¬ 4 * g = 4 * f + 1 := by omega
        have z1 : ¬ 4 * g + 1 = 4 * f + 1 := by omega
        have z2 : ¬ 4 * g + 2 = 4 * f + 1 := by omega
        have z3 : ¬ 4 * g + 3 = 4 * f + 1 := by omega
        simp only [z0, z1, z2, z3, e, and_false, false_and, if_false]
        simp
        omega
    · simp only [pN_if]
      by_cases e : g = f
      · subst e
        simp
        omega
      · have z0 : ¬ 4 * g = 4 * f + 2 := by omega
        have z1 : ¬ 4 * g + 1 = 4 * f + 2 := by omega
        have z2 : ¬ 4 * g + 2 = 4 * f + 2 := by omega
        have z3 : ¬ 4 * g + 3 = 4 * f + 2 := by omega
        simp only [z0, z1, z2, z3, e, and_false, false_and, if_false]
        simp
        omega
    · simp only [pN_if]
      by_cases e : g = f
      · subst e
        simp
        omega
      · have z0 : ¬ 4 * g = 4 * f + 3 := by omega
        have z1 : ¬ 4 * g + 1 = 4 * f + 3 := by omega
        have z2 : ¬ 4 * g + 2 = 4 * f + 3 := by omega
        have z3 : ¬ 4 * g + 3 = 4 * f + 3 := by omega
        simp only [z0, z1, z2, z3, e, and_false, false_and, if_false]
        simp
        omega
/-- base, next, expected: slot 7 + i, kind 16 + i -/
theorem num_rel (H : Rel B h a r) {i : Nat} (hi : i < 3) (hn : 0 ≤ n ∧ n ≤ 100) (hbn : (i = 0 → n ≤ r.1 17 0 f) ∧ (i = 1 → r.1 16 0 f ≤ n)) : Rel B h (pN a 9 f (7 + i) n) (pN r (16 + i) 0 f n) := by
  refine H.setF (Int.le_refl _) (fun c hc => ?_) rfl (fun c h16 h17 h18 h23 => ?_) rfl (fun g hg => ?_)
  · funext i j
    rw [pN_ne (fun q => hc q.1)]
  · funext i j
    rw [pN_ne (by omega)]
  · rw [pN_ne (by omega)] at hg
    have x := H.F g hg
    rcases (show i = 0 ∨ i = 1 ∨ i = 2 by omega) with rfl | rfl | rfl
    · simp only [pN_if]
      by_cases e : g = f
      · subst e
        simp
        omega
      · simp [e]
        omega
    · simp only [pN_if]
      by_cases e : g = f
      · subst e
        simp
        omega
      · simp [e]
        omega
    · simp only [pN_if]
      by_cases e : g = f
      · subst e
        simp
        omega
      · simp [e]
        omega
theorem mk_l {K1 : Int → Int → Int → Int → MemI → Option (Int × MemI)} {K2 : Int → MemI → Option (Int × MemI)} {K : Int → Int → Int → Int → Int → MemI → Option MemI} {z y : MemI} {x1 x2 x3 x4 : Int}
    (he : ∀ j, j < 64 → (z.1 11 j 0 = 0 ∧ y.1 24 0 j = 0) ∨ (z.1 11 j 0 = 1 ∧ 1 ≤ y.1 24 0 j ∧ y.1 24 0 j ≤ 3)) :
    ∀ (m j n : Nat), j + m = 64 → m < n → ∃ k : Nat, k ≤ 64 ∧ (k < 64 → z.1 11 k 0 = 0 ∧ y.1 24 0 k = 0) ∧ di_X_make_18 K1 K2 n x1 x2 x3 j z = (if k < 64 then K1 x1 x2 x3 k z else K2 x1 z) ∧ di_Y_make_17 K n x1 x2 x3 x4 j y = K x1 x2 x3 x4 k y := by
  intro m
  induction m with
  | zero =>
    intro j n hj hn
    obtain ⟨n, rfl⟩ : ∃ q, n = q + 1 := ⟨n - 1, by omega⟩
    have e : j = 64 := by omega
    subst e
    refine ⟨64, by omega, fun q => by omega, ?_, ?_⟩
    · have e1 : (if (64 : Nat) < 64 then K1 x1 x2 x3 ((64 : Nat) : Int) z else K2 x1 z) = K2 x1 z := if_neg (by omega)
      rw [e1, di_X_make_18]
      exact rgb (by omega) (itp (by omega) rfl)
    · rw [di_Y_make_17]
      exact rgb (by omega) (itp (by omega) rfl)
  | succ m ih =>
    intro j n hj hn
    obtain ⟨n, rfl⟩ : ∃ q, n = q + 1 := ⟨n - 1, by omega⟩
    have hj64 : j < 64 := by omega
    rcases he j hj64 with x | x
    · refine ⟨j, by omega, fun _ => x, ?_, ?_⟩
      · rw [di_X_make_18, if_pos hj64]
        exact rgb (by omega) (itn (by omega) (azb rfl hj64 (rgb (by omega) (itp x.1 rfl))))
      · rw [di_Y_make_17]
        exact rgb (by omega) (itn (by omega) (azb rfl hj64 (rgb (by omega) (itp x.2 rfl))))
    · obtain ⟨k, g1, g2, g3, g4⟩ := ih (j + 1) n (by omega) (by omega)
      refine ⟨k, g1, g2, ?_, ?_⟩
      · rw [di_X_make_18]
        exact rgb (by omega) (itn (by omega) (azb rfl hj64 (rgb (by omega) (itn (by omega) g3))))
      · rw [di_Y_make_17]
        exact rgb (by omega) (itn (by omega) (azb rfl hj64 (rgb (by omega) (itn (by omega) g4))))
/-- a free place takes a new packet: it is in hand -/
theorem born_rel (H : Rel B 64 a r) (hk : k < 64) (h0 : a.1 11 k 0 = 0 ∧ r.1 24 0 k = 0) (hf : (f : Int) < r.1 0 0 9) (hst : r.1 19 0 f = -1) (hbg : r.1 0 0 35 = 1) (hans : ans = 0 ∨ ans = 1) (hn : 0 ≤ n ∧ n ≤ 100 ∧ (ans = 0 → n < 100)) {sz en : Int} (hsz : sz = if ans = 0 then r.1 12 0 f else 1) (hen : en = if ans = 0 then r.1 10 0 f else r.1 9 0 f) :
    Rel B k (pN (pN (pN (pN (pN (pN a 11 k 0 1) 11 k 1 ans) 11 k 2 f) 11 k 3 n) 11 k 4 sz) 11 k 5 en) (pN (pN (pN r 25 0 k f) 26 0 k n) 27 0 k ans) := by
  have hG := H.G
  have hG2 := hG
  unfold rG at hG2
  generalize ha1 : pN (pN (pN (pN (pN (pN a 11 k 0 1) 11 k 1 ans) 11 k 2 f) 11 k 3 n) 11 k 4 sz) 11 k 5 en = a1
  generalize hr1 : pN (pN (pN r 25 0 k f) 26 0 k n) 27 0 k ans = r1
  have b0 : ∀ c, c ≠ 11 → a1.1 c = a.1 c := fun c hc => by
    funext i j
    rw [← ha1, pN_ne (fun q => hc q.1), pN_ne (fun q => hc q.1), pN_ne (fun q => hc q.1), pN_ne (fun q => hc q.1), pN_ne (fun q => hc q.1), pN_ne (fun q => hc q.1)]
  have bo : ∀ j i, j ≠ k → a1.1 11 j i = a.1 11 j i := fun j i hj => by
    rw [← ha1, pN_ne (by omega), pN_ne (by omega), pN_ne (by omega), pN_ne (by omega), pN_ne (by omega), pN_ne (by omega)]
  have bk : a1.1 11 k 0 = 1 ∧ a1.1 11 k 1 = ans ∧ a1.1 11 k 2 = f ∧ a1.1 11 k 3 = n ∧ a1.1 11 k 4 = sz ∧ a1.1 11 k 5 = en := by
    rw [← ha1]
    simp only [pN_if]
    simp
  have c0 : ∀ c, c ≠ 25 → c ≠ 26 → c ≠ 27 → r1.1 c = r.1 c := fun c h5 h6 h7 => by
    funext i j
    rw [← hr1, pN_ne (fun q => h7 q.1), pN_ne (fun q => h6 q.1), pN_ne (fun q => h5 q.1)]
  have co : ∀ j, j ≠ k → r1.1 25 0 j = r.1 25 0 j ∧ r1.1 26 0 j = r.1 26 0 j ∧ r1.1 27 0 j = r.1 27 0 j := fun j hj => by
    rw [← hr1]
    refine ⟨?_, ?_, ?_⟩ <;> rw [pN_ne (by omega), pN_ne (by omega), pN_ne (by omega)]
  have ck : r1.1 25 0 k = f ∧ r1.1 26 0 k = n ∧ r1.1 27 0 k = ans := by
    rw [← hr1]
    simp only [pN_if]
    simp
  have rr : r1.1 0 = r.1 0 := c0 0 (by decide) (by decide) (by decide)
  have h24 := c0 24 (by decide) (by decide) (by decide)
  have h28 := c0 28 (by decide) (by decide) (by decide)
  have h30 := c0 30 (by decide) (by decide) (by decide)
  have a4 := b0 4 (by decide)
  have E : ∀ j, j ≠ k → r1.1 24 0 j = r.1 24 0 j ∧ r1.1 25 0 j = r.1 25 0 j ∧ r1.1 28 0 j = r.1 28 0 j ∧ r1.1 30 0 j = r.1 30 0 j := fun j hj => by
    rw [h24, h28, h30]
    exact ⟨rfl, (co j hj).1, rfl, rfl⟩
  have lab : ∀ j, j ≠ k → rLab a r j → rLab a1 r1 j := fun j hj => rLab_c (fun i => Or.inl (bo j i hj)) (by rw [rr]; omega) (fun g _ => by rw [c0 9 (by decide) (by decide) (by decide), c0 10 (by decide) (by decide) (by decide), c0 12 (by decide) (by decide) (by decide)]; exact ⟨rfl, rfl, rfl⟩) (co j hj).1 (co j hj).2.1 (co j hj).2.2
  have n1 : ¬ r.1 24 0 k = 1 := by omega
  have n2 : ¬ r.1 24 0 k = 2 := by omega
  have m1 : ¬ r1.1 24 0 k = 1 := by rw [h24]; omega
  have m2 : ¬ r1.1 24 0 k = 2 := by rw [h24]; omega
  refine ⟨rG_c (fun j => by rw [b0 0 (by decide)]) (by rw [b0 12 (by decide)]) (fun j => by rw [rr]) (Int.le_refl _) hG, rK_c (fun p j _ => by rw [a4]) (by rw [rr]) (c0 1 (by decide) (by decide) (by decide)) (c0 2 (by decide) (by decide) (by decide)) (c0 3 (by decide) (by decide) (by decide)) (c0 4 (by decide) (by decide) (by decide)) (c0 5 (by decide) (by decide) (by decide)) H.K, rS_c (fun p => by rw [a4]; exact ⟨rfl, rfl⟩) (by rw [rr]) (c0 6 (by decide) (by decide) (by decide)) (c0 7 (by decide) (by decide) (by decide)) H.S, rD_c (b0 2 (by decide)) (by rw [rr]) (c0 1 (by decide) (by decide) (by decide)) (c0 2 (by decide) (by decide) (by decide)) (c0 3 (by decide) (by decide) (by decide)) (c0 8 (by decide) (by decide) (by decide)) H.D,
    rF_c (b0 9 (by decide)) (by rw [rr]) (fun c h1 h2 => c0 c (by omega) (by omega) (by omega)) (c0 23 (by decide) (by decide) (by decide)) (Int.le_refl _) H.F, ⟨fun j hj ne => ?_, fun _ => ⟨bk.1, Or.inl (by rw [h24]; exact h0.2), ?_⟩⟩,
    fun q hq => ⟨othQ (k := k) E (fun x => n1 x.1) (fun x => m1 x.1) (by rw [a4]) (by rw [b0 5 (by decide)]) (H.Q (by rw [← rr]; exact hq)), othL (k := k) E (fun x => n1 x.1) (fun x => m1 x.1) (by rw [a4]) (by rw [a4]) (by rw [b0 6 (by decide)]) (by rw [b0 7 (by decide)]) (by rw [rr]) (by rw [rr]; omega) (by omega) (fun g _ => by rw [c0 31 (by decide) (by decide) (by decide), c0 32 (by decide) (by decide) (by decide), c0 33 (by decide) (by decide) (by decide)]; exact ⟨rfl, rfl, rfl⟩) (H.L (by rw [← rr]; exact hq)), othO (k := k) E (fun x => n2 x.1) (fun x => m2 x.1) (by rw [a4]) (H.O (by rw [← rr]; exact hq))⟩, ?_, ⟨fun g hg hs => ?_, fun q => ?_⟩, rT_c (by rw [← ha1]; rfl) (by rw [← hr1]; rfl) (by rw [rr]) H.T⟩
  · have z := E j ne
    rw [z.1, z.2.2.1, z.2.2.2, bo j 0 ne, bo j 6 ne, rr]
    rcases H.P.1 j hj (by omega) with x | x
    · exact Or.inl x
    · exact Or.inr ⟨x.1, x.2.1, x.2.2.1, lab j ne x.2.2.2.1, x.2.2.2.2⟩
  · unfold rLab
    rw [bk.2.1, bk.2.2.1, bk.2.2.2.1, bk.2.2.2.2.1, bk.2.2.2.2.2, ck.1, ck.2.1, ck.2.2, rr, c0 9 (by decide) (by decide) (by decide), c0 10 (by decide) (by decide) (by decide), c0 12 (by decide) (by decide) (by decide), show ((f : Int)).toNat = f from rfl]
    exact ⟨rfl, hans, rfl, by omega, hf, rfl, hn.1, hn.2.1, hn.2.2, hsz, hen⟩
  · have rkk : ∀ s, s < 70 → rk r1 k s = rk r 64 s := fun s hs => by
      by_cases c : s < 6
      · unfold rk
        rw [if_pos c, if_pos c, rr, c0 19 (by decide) (by decide) (by decide), c0 21 (by decide) (by decide) (by decide)]
      · obtain ⟨j, rfl⟩ : ∃ j, s = 6 + j := ⟨s - 6, by omega⟩
        rw [rk_k, rk_k, h24, if_neg (show ¬ j = 64 by omega)]
        by_cases e : j = k
        · rw [if_pos e, e, h0.2]
          rfl
        · rw [if_neg e]
    refine rA_fr H.A (fun s hs => ?_) (fun s => by rw [b0 14 (by decide)]) (fun s => by rw [b0 15 (by decide)]) (by rw [b0 12 (by decide)]) (fun s hs hks => ?_) (by rw [rr]; omega) (Int.le_refl _)
    · rw [b0 13 (by decide), rkk s hs]
      exact H.A.1 s hs
    · rw [rkk s hs] at hks
      refine ⟨hks, ?_⟩
      rw [rt_c (c0 19 (by decide) (by decide) (by decide)) (c0 21 (by decide) (by decide) (by decide)) (c0 29 (by decide) (by decide) (by decide)), ru_c (c0 19 (by decide) (by decide) (by decide)) (c0 20 (by decide) (by decide) (by decide)) (c0 22 (by decide) (by decide) (by decide)) h30]
      exact ⟨rfl, rfl⟩
  · rw [rr] at hg
    rw [c0 19 (by decide) (by decide) (by decide)] at hs
    have x := H.N.1 g hg hs
    rw [c0 21 (by decide) (by decide) (by decide)]
    refine ⟨x.1, fun j hj hin => ?_⟩
    by_cases e : j = k
    · rw [e, ck.1]
      intro q
      have : f = g := by omega
      subst this
      exact hs hst
    · rw [bo j 0 e] at hin
      rw [(co j e).1]
      exact x.2 j hj hin
  · rw [rr] at q
    omega
theorem mkput (H : Rel B 64 a r) (hB : B < 600000000) (hf : (f : Int) < r.1 0 0 9) (hst : r.1 19 0 f = -1) (hbg : r.1 0 0 35 = 1) (hans : ans = 0 ∨ ans = 1) (hn : 0 ≤ n ∧ n ≤ 100 ∧ (ans = 0 → n < 100)) (hv : ir v) :
    ∃ (kk : Int) (a1 a2 r2 : MemI), di_X_make f n ans a = some (kk, a1) ∧ di_X_put kk v a1 = some a2 ∧ di_Y_make f n ans v r = some r2 ∧ Rel (B + 270) 64 a2 r2 ∧ frY r r2 ∧ a1.1 9 f 0 = a.1 9 f 0 ∧ a1.1 9 f 1 = a.1 9 f 1 := by
  have hG := H.G
  unfold rG at hG
  have hf6 : f < 6 := by omega
  have F := H.F f hf
  have t0 := tally_rel (f := f) H (sl := 10) (tl := 0) (by omega) rfl
  rw [show 4 * f + 0 = 4 * f by omega] at t0
  obtain ⟨k, hk, hfree, eX, eY⟩ := mk_l (K1 := fun x1 x2 x3 x4 z4 => (aiz 64 x4).bind fun j5 => (aiz 6 x1).bind fun j6 => (di_K_enter j5 x1 x2 x3 j6 z4).bind fun z7 => some (x4, z7)) (K2 := fun x1 z8 => (aiz 6 x1).bind fun j9 => stN (pN z8 9 j9 12 ((z8.1 9 j9 12) + (1 : Int))) fun z10 => some ((-1 : Int), z10))
    (K := fun x1 x2 x3 x4 x5 z5 => (rg x5).bind fun _ => if x5 = (64 : Int) then (aiz 24 (((4 : Int) * x1) + (2 : Int))).bind fun j14 => (aiz 24 (((4 : Int) * x1) + (2 : Int))).bind fun j15 => stN (pN z5 23 0 j15 ((z5.1 23 0 j14) + (1 : Int))) fun z16 => some z16 else (aiz 64 x5).bind fun j6 => stN (pN z5 25 0 j6 x1) fun z7 => (aiz 64 x5).bind fun j8 => stN (pN z7 26 0 j8 x2) fun z9 => (biz x3).bind fun _ => (aiz 64 x5).bind fun j11 => stN (pN z9 27 0 j11 x3) fun z12 => (di_Y_put x5 x4 z12).bind fun z13 => some z13)
    (z := pN a 9 f 10 (a.1 9 f 10 + 1)) (y := pN r 23 0 (4 * f) (r.1 23 0 (4 * f) + 1)) (x1 := (f : Int)) (x2 := n) (x3 := ans) (x4 := v) (fun j hj => by
      rcases H.P.1 j hj (by omega) with x | x
      · exact Or.inl x
      · exact Or.inr ⟨x.1, x.2.1, x.2.2.1⟩) 64 0 FU rfl (by decide)
  have eX2 : ∀ R, (if k < 64 then (aiz 64 (k : Int)).bind fun j5 => (aiz 6 (f : Int)).bind fun j6 => (di_K_enter j5 f n ans j6 (pN a 9 f 10 (a.1 9 f 10 + 1))).bind fun z7 => some ((k : Int), z7) else (aiz 6 (f : Int)).bind fun j9 => stN (pN (pN a 9 f 10 (a.1 9 f 10 + 1)) 9 j9 12 (((pN a 9 f 10 (a.1 9 f 10 + 1)).1 9 j9 12) + (1 : Int))) fun z10 => some ((-1 : Int), z10)) = R → di_X_make f n ans a = R := fun R hR => azb rfl hf6 (stNb (eX.trans hR))
  have eY2 : ∀ R, ((rg (k : Int)).bind fun _ => if (k : Int) = (64 : Int) then (aiz 24 (((4 : Int) * f) + (2 : Int))).bind fun j14 => (aiz 24 (((4 : Int) * f) + (2 : Int))).bind fun j15 => stN (pN (pN r 23 0 (4 * f) (r.1 23 0 (4 * f) + 1)) 23 0 j15 (((pN r 23 0 (4 * f) (r.1 23 0 (4 * f) + 1)).1 23 0 j14) + (1 : Int))) fun z16 => some z16 else (aiz 64 (k : Int)).bind fun j6 => stN (pN (pN r 23 0 (4 * f) (r.1 23 0 (4 * f) + 1)) 25 0 j6 f) fun z7 => (aiz 64 (k : Int)).bind fun j8 => stN (pN z7 26 0 j8 n) fun z9 => (biz ans).bind fun _ => (aiz 64 (k : Int)).bind fun j11 => stN (pN z9 27 0 j11 ans) fun z12 => (di_Y_put k v z12).bind fun z13 => some z13) = R → di_Y_make f n ans v r = R := fun R hR => azb (j := 4 * f) (by omega) (by omega) (azb (j := 4 * f) (by omega) (by omega) (stNb (eY.trans hR)))
  by_cases c : k < 64
  · have hfree := hfree c
    generalize hsz : (if ans = 0 then r.1 12 0 f else (1 : Int)) = sz
    generalize hen : (if ans = 0 then r.1 10 0 f else r.1 9 0 f) = en
    have HB := born_rel (f := f) (n := n) t0 c hfree hf hst hbg hans hn (sz := sz) (en := en) hsz.symm hen.symm
    obtain ⟨a2, r2, p1, p2, H2, fr2⟩ := put_r HB c (by omega) hv
    have en1 : di_K_enter k f n ans f (pN a 9 f 10 (a.1 9 f 10 + 1)) = some (pN (pN (pN (pN (pN (pN (pN a 9 f 10 (a.1 9 f 10 + 1)) 11 k 0 1) 11 k 1 ans) 11 k 2 f) 11 k 3 n) 11 k 4 sz) 11 k 5 en) := by
      refine bz1b (stNb (bzb hans (stNb (stNb (stNb (rgb (by omega) ?_))))))
      by_cases e : ans = 0
      · refine itp e (stNb (itp e (stNb ?_)))
        rw [if_pos e] at hsz hen
        have q3 : a.1 9 f 3 = sz := by omega
        have q1 : a.1 9 f 1 = en := by omega
        have g3 : (pN (pN (pN (pN (pN a 9 f 10 (a.1 9 f 10 + 1)) 11 k 0 1) 11 k 1 ans) 11 k 2 f) 11 k 3 n).1 9 f 3 = sz := by
          rw [← q3]
          rw [pN_ne (by omega), pN_ne (by omega), pN_ne (by omega), pN_ne (by omega), pN_ne (by omega)]
        rw [g3]
        have g1 : (pN (pN (pN (pN (pN (pN a 9 f 10 (a.1 9 f 10 + 1)) 11 k 0 1) 11 k 1 ans) 11 k 2 f) 11 k 3 n) 11 k 4 sz).1 9 f 1 = en := by
          rw [← q1]
          rw [pN_ne (by omega), pN_ne (by omega), pN_ne (by omega), pN_ne (by omega), pN_ne (by omega), pN_ne (by omega)]
        rw [g1]
      · refine itn e (stNb (itn e (stNb ?_)))
        rw [if_neg e] at hsz hen
        have q1 : a.1 9 f 0 = en := by omega
        have hs1 : sz = 1 := hsz.symm
        rw [hs1]
        have g1 : (pN (pN (pN (pN (pN (pN a 9 f 10 (a.1 9 f 10 + 1)) 11 k 0 1) 11 k 1 ans) 11 k 2 f) 11 k 3 n) 11 k 4 1).1 9 f 0 = en := by
          rw [← q1]
          rw [pN_ne (by omega), pN_ne (by omega), pN_ne (by omega), pN_ne (by omega), pN_ne (by omega), pN_ne (by omega)]
        rw [g1]
    refine ⟨k, _, a2, r2, eX2 _ (itp c (azb rfl c (azb rfl hf6 (cab en1 rfl)))), p1, eY2 _ (rgb (by omega) (itn (by omega) (azb rfl c (stNb (azb rfl c (stNb (bzb hans (azb rfl c (stNb (cab p2 rfl)))))))))), H2.mono (by omega), ((frY_pN (by omega)).tr ((frY_pN (by omega)).tr ((frY_pN (by omega)).tr (frY_pN (by omega))))).tr fr2, ?_, ?_⟩
    · rw [pN_ne (by omega), pN_ne (by omega), pN_ne (by omega), pN_ne (by omega), pN_ne (by omega), pN_ne (by omega), pN_ne (by omega)]
    · rw [pN_ne (by omega), pN_ne (by omega), pN_ne (by omega), pN_ne (by omega), pN_ne (by omega), pN_ne (by omega), pN_ne (by omega)]
  · have ek : k = 64 := by omega
    have t2 := tally_rel (f := f) t0 (sl := 12) (tl := 2) (by omega) rfl
    refine ⟨-1, _, _, _, eX2 _ (itn c (azb rfl hf6 (stNb rfl))), rgb (by omega) (itp rfl rfl), eY2 _ (rgb (by omega) (itp (by omega) (azb (j := 4 * f + 2) (by omega) (by omega) (azb (j := 4 * f + 2) (by omega) (by omega) (stNb rfl))))), t2.mono (by omega), (frY_pN (by omega)).tr (frY_pN (by omega)), ?_, ?_⟩
    · rw [pN_ne (by omega), pN_ne (by omega)]
    · rw [pN_ne (by omega), pN_ne (by omega)]
end MAKE
