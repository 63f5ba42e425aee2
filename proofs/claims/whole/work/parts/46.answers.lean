/-! ===== the questions: both sides answer alike, and nothing changes ===== -/
def same (a r : MemI) (dX dY : MemI → Option (Int × MemI)) : Prop := ∃ v, dX a = some (v, a) ∧ dY r = some (v, r)
theorem rk_f {r : MemI} {h f : Nat} (hf : f < 6) (h9 : (f : Int) < r.1 0 0 9) : rk r h f = if r.1 19 0 f = -1 then (if r.1 21 0 f = -1 then 0 else 4) else 1 := by
  unfold rk
  rw [if_pos hf, if_pos h9]
theorem rk_f0 {r : MemI} {h f : Nat} (hf : f < 6) (h9 : ¬ (f : Int) < r.1 0 0 9) : rk r h f = 0 := by
  unfold rk
  rw [if_pos hf, if_neg h9]
theorem rk_k {r : MemI} {h k : Nat} : rk r h (6 + k) = if k = h then 0 else if r.1 24 0 k = 2 then 2 else if r.1 24 0 k = 3 then 3 else 0 := by
  unfold rk
  rw [if_neg (by omega), show 6 + k - 6 = k by omega]
theorem rt_f {r : MemI} {f : Nat} (hf : f < 6) : rt r f = if r.1 19 0 f = -1 then r.1 21 0 f else r.1 19 0 f := by
  unfold rt
  rw [if_pos hf]
theorem ru_f {r : MemI} {f : Nat} (hf : f < 6) : ru r f = if r.1 19 0 f = -1 then r.1 22 0 f else r.1 20 0 f := by
  unfold ru
  rw [if_pos hf]
theorem rt_k {r : MemI} {k : Nat} : rt r (6 + k) = r.1 29 0 k := by
  unfold rt
  rw [if_neg (by omega), show 6 + k - 6 = k by omega]
theorem ru_k {r : MemI} {k : Nat} : ru r (6 + k) = r.1 30 0 k := by
  unfold ru
  rw [if_neg (by omega), show 6 + k - 6 = k by omega]
section ANSWERS
variable {B : Int} {h : Nat} {a r : MemI} {x1 x2 : Int}
theorem s_now (H : Rel B h a r) : same a r di_X_now di_Y_now := by
  have hG := H.G
  unfold rG at hG
  refine ⟨a.1 0 0 8, rfl, ?_⟩
  show some (r.1 0 0 36, r) = _
  rw [hG.2.2.2.2.2.2.1]
theorem s_trace (H : Rel B h a r) (hB : B < 1000000000) (h1 : ir x1) : same a r (di_X_trace x1) (di_Y_trace x1) := by
  have hG := H.G
  unfold rG at hG
  by_cases c : 0 ≤ x1 ∧ x1 ≤ 15
  · obtain ⟨k, rfl⟩ : ∃ k : Nat, x1 = k := ⟨x1.toNat, by omega⟩
    refine ⟨a.2 k, cab (xwi1 (by unfold ir; omega) (by unfold ir; omega) c) (rgb (by omega) (itn (by omega) (azb rfl (by omega) rfl))), ?_⟩
    have hT := H.T k (by omega)
    rw [hT]
    refine rgb (by omega) (itn (by omega) (itn (by omega) (rgb (by omega) ?_)))
    by_cases d : (k : Int) < r.1 0 0 38
    · refine itp d (nnb (by omega) (azb (j := ((r.1 0 0 38 - 1 - k) % 16).toNat) (by omega) (by omega) ?_))
      rw [if_pos d]
    · refine itn d ?_
      rw [if_neg d]
  · refine ⟨-1, cab (xwi0 h1 (by unfold ir; omega) (by unfold ir; omega) c) (rgb (by omega) (itp rfl rfl)), rgb h1 ?_⟩
    by_cases d : x1 < 0
    · exact itp d rfl
    · exact itn d (itp (by omega) rfl)
theorem rD_at (H : Rel B h a r) {v t : Nat} (hv : v < 8) (ht : t < 8) : (0 ≤ r.1 8 0 (8 * v + t) ∧ r.1 8 0 (8 * v + t) ≤ 1000000) ∧ (r.1 8 0 (8 * v + t) = 1000000 ∨ r.1 8 0 (8 * v + t) ≤ 25600) ∧ ((r.1 8 0 (8 * v + t) = 1000000 ∧ a.1 2 v t = -1) ∨ (r.1 8 0 (8 * v + t) ≠ 1000000 ∧ a.1 2 v t = r.1 8 0 (8 * v + t))) := by
  obtain ⟨d1, d2, d3, d4⟩ := H.D
  refine ⟨d2.1.2 v t hv ht, d4 v t hv ht, ?_⟩
  have e := d1 v t hv ht
  by_cases c : rM r v t = 1000000
  · rw [if_pos c] at e
    exact Or.inl ⟨c, e⟩
  · rw [if_neg c] at e
    exact Or.inr ⟨c, e⟩
theorem s_distance (H : Rel B h a r) (h1 : ir x1) (h2 : ir x2) : same a r (di_X_distance x1 x2) (di_Y_distance x1 x2) := by
  by_cases c1 : 0 ≤ x1 ∧ x1 ≤ 7
  · by_cases c2 : 0 ≤ x2 ∧ x2 ≤ 7
    · obtain ⟨v, rfl⟩ : ∃ k : Nat, x1 = k := ⟨x1.toNat, by omega⟩
      obtain ⟨t, rfl⟩ : ∃ k : Nat, x2 = k := ⟨x2.toNat, by omega⟩
      have d := rD_at H (v := v) (t := t) (by omega) (by omega)
      refine ⟨a.1 2 v t, cab (xnode1 c1) (rgb (by omega) (itn (by omega) (cab (xnode1 c2) (rgb (by omega) (itn (by omega) (azb rfl (by omega) (azb rfl (by omega) rfl))))))), ?_⟩
      refine cab (ynode1 c1) (rgb (by omega) (itn (by omega) (cab (ynode1 c2) (rgb (by omega) (itn (by omega) (azb (j := 8 * v + t) (by omega) (by omega) (rgb (by omega) ?_)))))))
      rcases d.2.2 with e | e
      · refine itn (by omega) ?_
        rw [e.2]
      · refine itp (by omega) (azb (j := 8 * v + t) (by omega) (by omega) ?_)
        rw [e.2]
    · exact ⟨-1, cab (xnode1 c1) (rgb (by omega) (itn (by omega) (cab (xnode0 h2 c2) (rgb (by omega) (itp rfl rfl))))), cab (ynode1 c1) (rgb (by omega) (itn (by omega) (cab (ynode0 h2 c2) (rgb (by omega) (itp rfl rfl)))))⟩
  · exact ⟨-1, cab (xnode0 h1 c1) (rgb (by omega) (itp rfl rfl)), cab (ynode0 h1 c1) (rgb (by omega) (itp rfl rfl))⟩
/-- a port's link, as both sides have it -/
theorem port_d (H : Rel B h a r) {p : Nat} (hp : (p : Int) < 2 * r.1 0 0 0) : ∃ u w : Nat, u < 8 ∧ w < 8 ∧ p < 24 ∧ ((p / 2 : Nat) : Int) < r.1 0 0 0 ∧ a.1 4 p 0 = u ∧ a.1 4 p 1 = w ∧ (if p % 2 = 0 then r.1 1 0 (p / 2) else r.1 2 0 (p / 2)) = u ∧ (if p % 2 = 0 then r.1 2 0 (p / 2) else r.1 1 0 (p / 2)) = w ∧
    a.1 4 p 2 = r.1 3 0 (p / 2) ∧ 1 ≤ r.1 3 0 (p / 2) ∧ r.1 3 0 (p / 2) ≤ 100 ∧ a.1 4 p 3 = r.1 4 0 (p / 2) ∧ 1 ≤ r.1 4 0 (p / 2) ∧ r.1 4 0 (p / 2) ≤ 16 ∧ a.1 4 p 4 = r.1 5 0 (p / 2) ∧ 0 ≤ r.1 5 0 (p / 2) ∧ r.1 5 0 (p / 2) ≤ 40 ∧ r.1 8 0 (8 * w + u) ≤ r.1 3 0 (p / 2) := by
  have hG := H.G
  unfold rG at hG
  have hl : ((p / 2 : Nat) : Int) < r.1 0 0 0 := by omega
  obtain ⟨k1, k2, k3⟩ := H.K (p / 2) hl
  have hm := H.D.2.1.2.2 (p / 2) (by omega)
  have hM : ∀ v t : Nat, rM r v t = r.1 8 0 (8 * v + t) := fun _ _ => rfl
  rw [hM, hM] at hm
  by_cases c : p % 2 = 0
  · rw [if_pos c, if_pos c]
    rw [show 2 * (p / 2) = p by omega] at k2
    refine ⟨(r.1 1 0 (p / 2)).toNat, (r.1 2 0 (p / 2)).toNat, ?_⟩
    refine ⟨by omega, by omega, by omega, hl, by omega, by omega, by omega, by omega, k2.2.2.1, k1.2.2.2.2.2.1, k1.2.2.2.2.2.2.1, k2.2.2.2.1, k1.2.2.2.2.2.2.2.1, k1.2.2.2.2.2.2.2.2.1, k2.2.2.2.2, k1.2.2.2.2.2.2.2.2.2.1, k1.2.2.2.2.2.2.2.2.2.2, hm.2⟩
  · rw [if_neg c, if_neg c]
    rw [show 2 * (p / 2) + 1 = p by omega] at k3
    refine ⟨(r.1 2 0 (p / 2)).toNat, (r.1 1 0 (p / 2)).toNat, ?_⟩
    refine ⟨by omega, by omega, by omega, hl, by omega, by omega, by omega, by omega, k3.2.2.1, k1.2.2.2.2.2.1, k1.2.2.2.2.2.2.1, k3.2.2.2.1, k1.2.2.2.2.2.2.2.1, k1.2.2.2.2.2.2.2.2.1, k3.2.2.2.2, k1.2.2.2.2.2.2.2.2.2.1, k1.2.2.2.2.2.2.2.2.2.2, hm.1⟩
theorem way_l (H : Rel B h a r) {v t : Nat} (hv : v < 8) (ht : t < 8) (hf : r.1 8 0 (8 * v + t) ≠ 1000000) :
    ∀ (m j n : Nat), (j : Int) + m = 2 * r.1 0 0 0 → m < n → ∃ w : Int, (w = -1 ∨ (0 ≤ w ∧ w < 2 * r.1 0 0 0)) ∧
      di_X_way_35 (fun x3 z10 => some (x3, z10)) (fun z11 => some ((-1 : Int), z11)) n v t j a = some (w, a) ∧ di_Y_way_19 (fun x3 z7 => some (x3, z7)) (fun z8 => some ((-1 : Int), z8)) n v t j r = some (w, r) := by
  have hG := H.G
  unfold rG at hG
  intro m
  induction m with
  | zero =>
    intro j n hj hn
    obtain ⟨n, rfl⟩ : ∃ q, n = q + 1 := ⟨n - 1, by omega⟩
    refine ⟨-1, Or.inl rfl, ?_, ?_⟩
    · rw [di_X_way_35]
      exact rgb (by omega) (rgb (by omega) (itp (by omega) rfl))
    · rw [di_Y_way_19]
      exact rgb (by omega) (rgb (by omega) (itp (by omega) rfl))
  | succ m ih =>
    intro j n hj hn
    obtain ⟨n, rfl⟩ : ∃ q, n = q + 1 := ⟨n - 1, by omega⟩
    obtain ⟨w, hw, ihX, ihY⟩ := ih (j + 1) n (by omega) (by omega)
    obtain ⟨u, w2, hu, hw2, hp24, hl, p1, p2, p3, p4, p5, p6, p7, -, -, -, -, -, -, p8⟩ := port_d H (p := j) (by omega)
    by_cases c1 : u = v
    · subst c1
      have d1 := rD_at H (v := w2) (t := t) hw2 ht
      have d2 := rD_at H (v := u) (t := t) hu ht
      have tri := H.D.2.1.2.1 w2 u t hw2 hu ht
      have hM : ∀ v t : Nat, rM r v t = r.1 8 0 (8 * v + t) := fun _ _ => rfl
      rw [hM, hM, hM] at tri
      have hc : (a.1 4 j 2 + a.1 2 w2 t = a.1 2 u t) ↔ (r.1 3 0 (j / 2) + r.1 8 0 (8 * w2 + t) = r.1 8 0 (8 * u + t)) := by omega
      have sX : ∀ R : Option (Int × MemI), (if a.1 4 j 2 + a.1 2 w2 t = a.1 2 u t then some ((j : Int), a) else di_X_way_35 (fun x3 z10 => some (x3, z10)) (fun z11 => some ((-1 : Int), z11)) n u t ((j : Int) + 1) a) = R → di_X_way_35 (fun x3 z10 => some (x3, z10)) (fun z11 => some ((-1 : Int), z11)) (n + 1) u t j a = R := by
        intro R hR
        rw [di_X_way_35]
        exact rgb (by omega) (rgb (by omega) (itn (by omega) (azb rfl (by omega) (rgb (by omega) (rgb (by omega) (itp p1 (azb p2 hw2 (azb rfl ht (azb rfl hu (azb rfl ht (rgb (by omega) (rgb (by omega) hR))))))))))))
      have sY : ∀ R : Option (Int × MemI), (if r.1 3 0 (j / 2) + r.1 8 0 (8 * w2 + t) = r.1 8 0 (8 * u + t) then some ((j : Int), r) else di_Y_way_19 (fun x3 z7 => some (x3, z7)) (fun z8 => some ((-1 : Int), z8)) n u t ((j : Int) + 1) r) = R → di_Y_way_19 (fun x3 z7 => some (x3, z7)) (fun z8 => some ((-1 : Int), z8)) (n + 1) u t j r = R := by
        intro R hR
        rw [di_Y_way_19]
        refine rgb (by omega) (rgb (by omega) (itn (by omega) (cab (yat hp24) ?_)))
        rw [p3]
        dsimp only
        refine rgb (by omega) (rgb (by omega) (itp rfl (nnb (by omega) (azb (j := j / 2) (by omega) (by omega) (cab (yleads hp24) ?_)))))
        rw [p4]
        dsimp only
        exact azb (j := 8 * w2 + t) (by omega) (by omega) (azb (j := 8 * u + t) (by omega) (by omega) (rgb (by omega) (rgb (by omega) hR)))
      by_cases c2 : a.1 4 j 2 + a.1 2 w2 t = a.1 2 u t
      · exact ⟨j, Or.inr ⟨by omega, by omega⟩, sX _ (if_pos c2), sY _ (if_pos (hc.mp c2))⟩
      · exact ⟨w, hw, sX _ ((if_neg c2).trans ihX), sY _ ((if_neg (fun q => c2 (hc.mpr q))).trans ihY)⟩
    · refine ⟨w, hw, ?_, ?_⟩
      · rw [di_X_way_35]
        exact rgb (by omega) (rgb (by omega) (itn (by omega) (azb rfl (by omega) (rgb (by omega) (rgb (by omega) (itn (by omega) ihX))))))
      · rw [di_Y_way_19]
        refine rgb (by omega) (rgb (by omega) (itn (by omega) (cab (yat hp24) ?_)))
        rw [p3]
        dsimp only
        exact rgb (by omega) (rgb (by omega) (itn (by omega) ihY))
theorem way_r (H : Rel B h a r) (h1 : ir x1) (h2 : ir x2) : ∃ w : Int, (w = -1 ∨ (0 ≤ w ∧ w < 2 * r.1 0 0 0)) ∧ di_X_way x1 x2 a = some (w, a) ∧ di_Y_way x1 x2 r = some (w, r) := by
  have hG := H.G
  unfold rG at hG
  by_cases c1 : 0 ≤ x1 ∧ x1 ≤ 7
  · by_cases c2 : 0 ≤ x2 ∧ x2 ≤ 7
    · obtain ⟨v, rfl⟩ : ∃ k : Nat, x1 = k := ⟨x1.toNat, by omega⟩
      obtain ⟨t, rfl⟩ : ∃ k : Nat, x2 = k := ⟨x2.toNat, by omega⟩
      by_cases c3 : (v : Int) = t
      · exact ⟨-1, Or.inl rfl, cab (xnode1 c1) (rgb (by omega) (itn (by omega) (cab (xnode1 c2) (rgb (by omega) (itn (by omega) (rgb (by omega) (rgb (by omega) (itp c3 rfl)))))))), rgb (by omega) (rgb (by omega) (itp c3 rfl))⟩
      · have d := rD_at H (v := v) (t := t) (by omega) (by omega)
        have eY : di_Y_distance v t r = some ((a.1 2 v t), r) := by
          obtain ⟨y, hX, hY⟩ := s_distance H h1 h2
          have hX2 : di_X_distance v t a = some (a.1 2 v t, a) := cab (xnode1 c1) (rgb (by omega) (itn (by omega) (cab (xnode1 c2) (rgb (by omega) (itn (by omega) (azb rfl (by omega) (azb rfl (by omega) rfl)))))))
          rw [hX2] at hX
          cases hX
          exact hY
        rcases d.2.2 with e | e
        · refine ⟨-1, Or.inl rfl, cab (xnode1 c1) (rgb (by omega) (itn (by omega) (cab (xnode1 c2) (rgb (by omega) (itn (by omega) (rgb (by omega) (rgb (by omega) (itn c3 (azb rfl (by omega) (azb rfl (by omega) (rgb (by omega) (itp e.2 rfl)))))))))))), rgb (by omega) (rgb (by omega) (itn c3 (cab eY ?_)))⟩
          dsimp only
          exact rgb (by omega) (itp e.2 rfl)
        · obtain ⟨w, hw, hX, hY⟩ := way_l H (v := v) (t := t) (by omega) (by omega) e.1 (2 * r.1 0 0 0).toNat 0 FU (by omega) (by have : FU = 200 := rfl; omega)
          refine ⟨w, hw, cab (xnode1 c1) (rgb (by omega) (itn (by omega) (cab (xnode1 c2) (rgb (by omega) (itn (by omega) (rgb (by omega) (rgb (by omega) (itn c3 (azb rfl (by omega) (azb rfl (by omega) (rgb (by omega) (itn (by omega) hX)))))))))))), rgb (by omega) (rgb (by omega) (itn c3 (cab eY ?_)))⟩
          dsimp only
          exact rgb (by omega) (itn (by omega) hY)
    · refine ⟨-1, Or.inl rfl, cab (xnode1 c1) (rgb (by omega) (itn (by omega) (cab (xnode0 h2 c2) (rgb (by omega) (itp rfl rfl))))), rgb h1 (rgb h2 ?_)⟩
      by_cases c3 : x1 = x2
      · exact itp c3 rfl
      · refine itn c3 (cab (v := (-1, r)) (cab (ynode1 c1) (rgb (by omega) (itn (by omega) (cab (ynode0 h2 c2) (rgb (by omega) (itp rfl rfl)))))) ?_)
        exact rgb (by omega) (itp rfl rfl)
  · refine ⟨-1, Or.inl rfl, cab (xnode0 h1 c1) (rgb (by omega) (itp rfl rfl)), rgb h1 (rgb h2 ?_)⟩
    by_cases c3 : x1 = x2
    · exact itp c3 rfl
    · refine itn c3 (cab (v := (-1, r)) (cab (ynode0 h1 c1) (rgb (by omega) (itp rfl rfl))) ?_)
      exact rgb (by omega) (itp rfl rfl)
theorem s_way (H : Rel B h a r) (h1 : ir x1) (h2 : ir x2) : same a r (di_X_way x1 x2) (di_Y_way x1 x2) := by
  obtain ⟨w, -, hX, hY⟩ := way_r H h1 h2
  exact ⟨w, hX, hY⟩
end ANSWERS
