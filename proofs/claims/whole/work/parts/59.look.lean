/-! ===== one look, and all looks ===== -/
def dS (a : MemI) (p : Nat) : Int := a.1 7 p 0 + a.1 7 p 1 + a.1 7 p 2 + a.1 7 p 3 + a.1 7 p 4 + a.1 7 p 5
section LOOK
variable {B : Int} {a r : MemI} {p : Nat}
theorem d7 {h : Nat} (H : Rel B h a r) (hp : (p : Int) < 2 * r.1 0 0 0) (h10 : a.1 4 p 10 = 0) {f : Nat} (hf : f < 6) : 0 ≤ a.1 7 p f ∧ a.1 7 p f ≤ 7 := by
  have hLL := H.L hp
  by_cases c : ∃ i : Nat, (i : Int) < a.1 4 p 9 ∧ a.1 6 p i = f
  · obtain ⟨i, hi, e⟩ := c
    have y := hLL.2.2.2.2.1 i hi
    rw [e, show ((f : Int)).toNat = f from rfl] at y
    have y8 := y.2.2.2.2.2.2.2.1
    rw [if_neg (fun q => by omega)] at y8
    exact ⟨y.2.2.2.2.2.2.1, y8⟩
  · have y := hLL.2.2.2.2.2.2.2 f hf (fun i hi e => c ⟨i, hi, e⟩)
    omega
theorem listed_pos {h : Nat} (H : Rel B h a r) (hp : (p : Int) < 2 * r.1 0 0 0) (hq : 0 < a.1 4 p 8) : 0 < a.1 4 p 9 := by
  have x := (H.Q hp).2.2.1 0 (by omega)
  obtain ⟨i, hi, -⟩ := (H.L hp).2.2.2.2.2.2.1 (a.1 5 p 0).toNat (by omega) x.2.2.1 x.2.2.2
  omega
theorem look (H : Rel B 64 a r) (hB : B < 1000000000) (hp : (p : Int) < 2 * r.1 0 0 0) (hon : a.1 4 p 7 = -1) (hq : 0 < a.1 4 p 8) :
    (∃ a1 r1, (∀ n j : Nat, j < 54 → di_X_choose_2 kX (fun z20 => some z20) (n + 1) p j a = some a1) ∧ (∀ n j : Nat, j < 54 → di_Y_choose_2 kY (fun z48 => some z48) (n + 1) p j r = some r1) ∧ Rel (B + 200) 64 a1 r1 ∧ frY r r1) ∨
    (∃ a1 r1, (∀ n j : Nat, j < 54 → di_X_choose_2 kX (fun z20 => some z20) (n + 1) p j a = di_X_choose_2 kX (fun z20 => some z20) n p ((j : Int) + 1) a1) ∧ (∀ n j : Nat, j < 54 → di_Y_choose_2 kY (fun z48 => some z48) (n + 1) p j r = di_Y_choose_2 kY (fun z48 => some z48) n p ((j : Int) + 1) r1) ∧ Rel (B + 1) 64 a1 r1 ∧
      a1.1 4 p 7 = -1 ∧ a1.1 4 p 8 = a.1 4 p 8 ∧ a1.1 4 p 10 = 0 ∧ dS a1 p ≥ dS a p + (if a.1 4 p 10 = 0 then 1 else 0) ∧ dS a1 p ≤ 42 ∧ frY r r1) := by
  have hG := H.G
  unfold rG at hG
  have hm := listed_pos H hp hq
  have hLL := H.L hp
  have hSh := H.S p hp
  have y0 := hLL.2.2.2.2.1 0 (by omega)
  obtain ⟨L, hL⟩ : ∃ L : Nat, a.1 6 p 0 = L := ⟨(a.1 6 p 0).toNat, by omega⟩
  have eL : (a.1 6 p 0).toNat = L := by omega
  rw [eL] at y0
  have hL6 : L < 6 := by omega
  have h10 := hLL.2.2.1
  obtain ⟨aS, s1, HS, s10, s7, s4, s0, s2, sq⟩ := serve H hp hL hm
  generalize hd : a.1 7 p L + (if a.1 4 p 10 = 0 then a.1 4 p 5 else 0) = d at HS s7
  generalize hrS : pN (pN r 32 0 (6 * p + L) d) 33 0 (6 * p + L) 1 = rS at HS
  have rS0 : rS.1 0 = r.1 0 := by rw [← hrS]; rfl
  have frS : frY r rS := by
    rw [← hrS]
    exact (frY_pN (by omega)).tr (frY_pN (by omega))
  have hpS : (p : Int) < 2 * rS.1 0 0 0 := by rw [rS0]; exact hp
  have s6 := s0 6 (by decide) (by decide)
  have hLS : aS.1 6 p 0 = L := by rw [s6]; exact hL
  have hmS : 0 < aS.1 4 p 9 := by rw [s4 9 (by decide)]; exact hm
  have hGS := HS.G
  unfold rG at hGS
  obtain ⟨P, k, hP, hk, ePk, k24, k28, k25, kmin, fX, fY⟩ := first_p HS hB hpS (f := L) ⟨0, by omega, hLS⟩
  have lab := (rP_in HS.P hk (Or.inl k24)).2.2.1
  have szY := ysize (z := rS) hk (by omega) lab rfl rfl rfl
  have F := (HS.F L (by rw [rS0]; omega)).1
  have sz : 1 ≤ aS.1 11 k 4 ∧ aS.1 11 k 4 ≤ 8 := by
    unfold rLab at lab
    have h4 := lab.2.2.2.2.2.2.2.2.2.1
    rw [k25, show ((L : Int)).toNat = L from rfl] at h4
    split at h4 <;> omega
  have dL : aS.1 7 p L = d := by rw [s7, if_pos rfl]
  have r32 : rS.1 32 0 (6 * p + L) = d := by rw [← hrS, pN_ne (by omega), pN_at]
  have dr : 0 ≤ d ∧ d ≤ 23 := by
    have y := (HS.L hpS).2.2.2.2.1 0 (by omega)
    rw [hLS, show ((L : Int)).toNat = L from rfl, dL] at y
    have y8 := y.2.2.2.2.2.2.2.1
    rw [if_pos ⟨rfl, s10⟩] at y8
    exact ⟨y.2.2.2.2.2.2.1, y8⟩
  have hq8 := (HS.Q hpS).2.1
  -- both sides up to the question
  have cX : ∀ (n j : Nat) (R : Option MemI), j < 54 → (if d < aS.1 11 k 4 then (di_P_dropFirst p aS).bind fun z7 => (di_P_append p (L : Int) z7).bind fun z8 => di_X_choose_2 kX (fun z20 => some z20) n p ((j : Int) + 1) z8 else kX p (L : Int) (P : Int) k aS) = R → di_X_choose_2 kX (fun z20 => some z20) (n + 1) p j a = R := by
    intro n j R hj hR
    rw [di_X_choose_2]
    refine rgb (by omega) (itn (by omega) (rgb (by have := (H.Q hp).2.1; omega) (itn (by omega) (azb (j := 0) rfl (by omega) (cab s1 ?_)))))
    rw [hL]
    refine cab fX ?_
    dsimp only
    refine azb rfl (by omega) (azb ePk hk (azb rfl hL6 ?_))
    rw [dL]
    exact rgb (by omega) (rgb (by omega) hR)
  have cY : ∀ (n j : Nat) (R : Option MemI), j < 54 → (if d < aS.1 11 k 4 then stN (pN rS 0 0 37 ((rS.1 0 0 37) + (1 : Int))) fun z14 => (aiz 144 ((6 : Int) * p + L)).bind fun j15 => stN (pN z14 31 0 j15 ((rS.1 0 0 37) + (1 : Int))) fun z16 => (biz (0 : Int)).bind fun _ => (aiz 144 ((6 : Int) * p + L)).bind fun j18 => stN (pN z16 33 0 j18 (0 : Int)) fun z19 => di_Y_choose_2 kY (fun z48 => some z48) n p ((j : Int) + 1) z19 else kY p ((6 : Int) * p + L) (k : Int) rS) = R → di_Y_choose_2 kY (fun z48 => some z48) (n + 1) p j r = R := by
    intro n j R hj hR
    rw [di_Y_choose_2]
    refine rgb (by omega) (itn (by omega) (cab (ylead H hB hp hL hm) ?_))
    dsimp only
    have r33 := y0.2.2.2.2.1
    rw [if_pos rfl] at r33
    refine stWb (azb (j := 6 * p + L) (by omega) (by omega) (azb (j := 6 * p + L) (by omega) (by omega) (rgb (by omega) ?_)))
    by_cases c : a.1 4 p 10 = 0
    · refine itp (by omega) (azb rfl (by omega) (azb (j := 6 * p + L) (by omega) (by omega) (stNb (bz1b (azb (j := 6 * p + L) (by omega) (by omega) (stNb ?_))))))
      rw [if_pos c] at hd
      rw [show r.1 32 0 (6 * p + L) + r.1 6 0 p = d by omega, hrS]
      refine cab fY ?_
      dsimp only
      refine cab szY ?_
      dsimp only
      refine azb (j := 6 * p + L) (by omega) (by omega) ?_
      rw [r32]
      exact rgb (by omega) (rgb (by omega) hR)
    · refine itn (by omega) (azb (j := 6 * p + L) (by omega) (by omega) (stNb (bz1b (azb (j := 6 * p + L) (by omega) (by omega) (stNb ?_)))))
      rw [if_neg c] at hd
      rw [show r.1 32 0 (6 * p + L) + 0 = d by omega, hrS]
      refine cab fY ?_
      dsimp only
      refine cab szY ?_
      dsimp only
      refine azb (j := 6 * p + L) (by omega) (by omega) ?_
      rw [r32]
      exact rgb (by omega) (rgb (by omega) hR)
  by_cases c : d < aS.1 11 k 4
  · right
    obtain ⟨a1, ⟨z7, e1, e2⟩, H1, q10, q7, q47, q48, q49, q0⟩ := rotate HS hpS hLS hmS (by omega)
    refine ⟨a1, _, fun n j hj => cX n j _ hj (itp c (cab e1 (cab e2 rfl))), fun n j hj => cY n j _ hj (itp c (stNb (azb (j := 6 * p + L) (by omega) (by omega) (stNb (bz0b (azb (j := 6 * p + L) (by omega) (by omega) (stNb rfl))))))), H1, ?_, ?_, q10, ?_, ?_, ?_⟩
    · rw [q47, s4 7 (by decide)]
      exact hon
    · rw [q48, s4 8 (by decide)]
    · unfold dS
      simp only [q7, s7]
      have hq2 : (if a.1 4 p 10 = 0 then (1 : Int) else 0) ≤ d - a.1 7 p L := by
        rw [← hd]
        by_cases c0 : a.1 4 p 10 = 0
        · rw [if_pos c0, if_pos c0]
          omega
        · rw [if_neg c0, if_neg c0]
          omega
      rcases (show L = 0 ∨ L = 1 ∨ L = 2 ∨ L = 3 ∨ L = 4 ∨ L = 5 by omega) with rfl | rfl | rfl | rfl | rfl | rfl
      · show d + a.1 7 p 1 + a.1 7 p 2 + a.1 7 p 3 + a.1 7 p 4 + a.1 7 p 5 ≥ _
        omega
      · show a.1 7 p 0 + d + a.1 7 p 2 + a.1 7 p 3 + a.1 7 p 4 + a.1 7 p 5 ≥ _
        omega
      · show a.1 7 p 0 + a.1 7 p 1 + d + a.1 7 p 3 + a.1 7 p 4 + a.1 7 p 5 ≥ _
        omega
      · show a.1 7 p 0 + a.1 7 p 1 + a.1 7 p 2 + d + a.1 7 p 4 + a.1 7 p 5 ≥ _
        omega
      · show a.1 7 p 0 + a.1 7 p 1 + a.1 7 p 2 + a.1 7 p 3 + d + a.1 7 p 5 ≥ _
        omega
      · show a.1 7 p 0 + a.1 7 p 1 + a.1 7 p 2 + a.1 7 p 3 + a.1 7 p 4 + d ≥ _
        omega
    · have hp1 : (p : Int) < 2 * (pN (pN (pN rS 0 0 37 (rS.1 0 0 37 + 1)) 31 0 (6 * p + L) (rS.1 0 0 37 + 1)) 33 0 (6 * p + L) 0).1 0 0 0 := hpS
      have w0 := d7 H1 hp1 q10 (f := 0) (by omega)
      have w1 := d7 H1 hp1 q10 (f := 1) (by omega)
      have w2 := d7 H1 hp1 q10 (f := 2) (by omega)
      have w3 := d7 H1 hp1 q10 (f := 3) (by omega)
      have w4 := d7 H1 hp1 q10 (f := 4) (by omega)
      have w5 := d7 H1 hp1 q10 (f := 5) (by omega)
      unfold dS
      omega
    · exact frS.tr ((frY_pN (by omega)).tr ((frY_pN (by omega)).tr (frY_pN (by omega))))
  · left
    obtain ⟨a1, r1, e1, e2, H1, fr1⟩ := fin_rel HS hB hpS hLS hmS s10 (by rw [s4 7 (by decide)]; exact hon) hP hk ePk k24 k28 k25 (by omega)
    exact ⟨a1, r1, fun n j hj => cX n j _ hj (itn c e1), fun n j hj => cY n j _ hj (itn c e2), H1, frS.tr fr1⟩
theorem looks : ∀ (m : Nat) {B : Int} {a r : MemI} (j n : Nat), Rel B 64 a r → B < 900000000 - m → (p : Int) < 2 * r.1 0 0 0 → a.1 4 p 7 = -1 → 0 < a.1 4 p 8 → 43 - dS a p + (if a.1 4 p 10 = 0 then 0 else 1) ≤ m → j + m < 54 → m < n → ∃ a1 r1, di_X_choose_2 kX (fun z20 => some z20) n p j a = some a1 ∧ di_Y_choose_2 kY (fun z48 => some z48) n p j r = some r1 ∧ Rel (B + m + 200) 64 a1 r1 ∧ frY r r1 := by
  intro m
  induction m with
  | zero =>
    intro B a r j n H hB hp hon hq hm hj hn
    obtain ⟨n, rfl⟩ : ∃ q, n = q + 1 := ⟨n - 1, by omega⟩
    rcases look H (by omega) hp hon hq with ⟨a1, r1, eX, eY, H1, fr1⟩ | ⟨a1, r1, eX, eY, H1, h7, h8, h10, hge, hle, fr1⟩
    · exact ⟨a1, r1, eX n j (by omega), eY n j (by omega), H1.mono (by omega), fr1⟩
    · by_cases c : a.1 4 p 10 = 0
      · rw [if_pos c] at hm hge
        omega
      · rw [if_neg c] at hm hge
        omega
  | succ m ih =>
    intro B a r j n H hB hp hon hq hm hj hn
    obtain ⟨n, rfl⟩ : ∃ q, n = q + 1 := ⟨n - 1, by omega⟩
    rcases look H (by omega) hp hon hq with ⟨a1, r1, eX, eY, H1, fr1⟩ | ⟨a1, r1, eX, eY, H1, h7, h8, h10, hge, hle, fr1⟩
    · exact ⟨a1, r1, eX n j (by omega), eY n j (by omega), H1.mono (by omega), fr1⟩
    · obtain ⟨a2, r2, gX, gY, H2, fr2⟩ := ih (j + 1) n H1 (by omega) (by rw [fr1.2 0 (by decide)]; exact hp) h7 (by omega) (by
        rw [if_pos h10]
        by_cases c : a.1 4 p 10 = 0
        · rw [if_pos c] at hm hge
          omega
        · rw [if_neg c] at hm hge
          omega) (by omega) (by omega)
      exact ⟨a2, r2, (eX n j (by omega)).trans gX, (eY n j (by omega)).trans gY, H2.mono (by omega), fr1.tr fr2⟩
theorem choose_r (H : Rel B 64 a r) (hB : B < 800000000) (hp : (p : Int) < 2 * r.1 0 0 0) (hon : a.1 4 p 7 = -1) (hq : 0 < a.1 4 p 8) : ∃ a1 r1, di_X_choose p a = some a1 ∧ di_Y_choose p r = some r1 ∧ Rel (B + 250) 64 a1 r1 ∧ frY r r1 := by
  have n7 : ∀ f, f < 6 → 0 ≤ a.1 7 p f := fun f hf => by
    have hLL := H.L hp
    by_cases c : ∃ i : Nat, (i : Int) < a.1 4 p 9 ∧ a.1 6 p i = f
    · obtain ⟨i, hi, e⟩ := c
      have y := hLL.2.2.2.2.1 i hi
      rw [e, show ((f : Int)).toNat = f from rfl] at y
      exact y.2.2.2.2.2.2.1
    · have y := hLL.2.2.2.2.2.2.2 f hf (fun i hi e => c ⟨i, hi, e⟩)
      omega
  have w0 := n7 0 (by omega)
  have w1 := n7 1 (by omega)
  have w2 := n7 2 (by omega)
  have w3 := n7 3 (by omega)
  have w4 := n7 4 (by omega)
  have w5 := n7 5 (by omega)
  obtain ⟨a1, r1, e1, e2, H1, fr1⟩ := looks (p := p) 44 0 FU H (by omega) hp hon hq (by
    unfold dS
    split <;> omega) (by omega) (by decide)
  exact ⟨a1, r1, (choose_kX p a).trans e1, (choose_kY p r).trans e2, H1.mono (by omega), fr1⟩
end LOOK
