/-! ===== shape, tune ===== -/
section SHAPE
variable {B : Int} {a r : MemI} {x1 x2 x3 x4 : Int}
def goes (B : Int) (a r : MemI) (dX dY : MemI → Option (Int × MemI)) : Prop := ∃ v a1 r1, dX a = some (v, a1) ∧ dY r = some (v, r1) ∧ Rel B 64 a1 r1
theorem same.goes {dX dY : MemI → Option (Int × MemI)} (h : same a r dX dY) (H : Rel B 64 a r) : goes B a r dX dY := by
  obtain ⟨v, h1, h2⟩ := h
  exact ⟨v, a, r, h1, h2, H⟩
theorem shape_rel (H : Rel B 64 a r) {p : Nat} (hp : (p : Int) < 2 * r.1 0 0 0) (h2 : 1 ≤ x2 ∧ x2 ≤ 16) (h3 : 1 ≤ x3 ∧ x3 ≤ 8) : Rel B 64 (pN (pN a 4 p 5 x2) 4 p 6 x3) (pN (pN r 6 0 p x2) 7 0 p x3) := by
  refine ⟨rG_c (fun _ => rfl) rfl (fun _ => rfl) (Int.le_refl _) H.G, rK_c (fun q j hj => ?_) rfl rfl rfl rfl rfl rfl H.K, fun q hq => ?_, rD_c rfl rfl rfl rfl rfl rfl H.D, rF_c rfl rfl (fun c h9 h10 => ?_) rfl (Int.le_refl _) H.F, rP_c rfl (Int.le_refl _) (Int.le_refl _) (fun _ _ => ⟨rfl, rfl, rfl⟩) rfl rfl rfl rfl rfl rfl (Int.le_refl _) H.P, fun q hq => ⟨?_, ?_, ?_⟩, rA_c rfl rfl rfl rfl rfl rfl rfl rfl rfl rfl rfl rfl (Int.le_refl _) (Int.le_refl _) H.A, rN_c (fun _ => rfl) rfl rfl rfl rfl rfl H.N, rT_c rfl rfl rfl H.T⟩
  · rw [pN_ne (by omega), pN_ne (by omega)]
  · have x := H.S q hq
    simp only [pN_if]
    by_cases e : q = p
    · subst e
      simp
      omega
    · simp [e]
      exact x
  · funext i j
    rw [pN_ne (by omega), pN_ne (by omega)]
  · exact rQ_c (a := a) (r := r) (by rw [pN_ne (by omega), pN_ne (by omega)]) rfl rfl rfl rfl (H.Q hq)
  · exact rL_c (a := a) (r := r) (by rw [pN_ne (by omega), pN_ne (by omega)]) (by rw [pN_ne (by omega), pN_ne (by omega)]) rfl rfl (Int.le_refl _) rfl rfl rfl rfl rfl rfl (Int.le_refl _) (H.L hq)
  · exact rO_c (a := a) (r := r) (by rw [pN_ne (by omega), pN_ne (by omega)]) rfl rfl (H.O hq)
theorem g_shape (H : Rel B 64 a r) (h1 : ir x1) (h2 : ir x2) (h3 : ir x3) : goes B a r (di_X_shape x1 x2 x3) (di_Y_shape x1 x2 x3) := by
  have hG := H.G
  unfold rG at hG
  by_cases c0 : r.1 0 0 35 = 0
  · by_cases c1 : 0 ≤ x1 ∧ x1 < 2 * r.1 0 0 0
    · obtain ⟨p, rfl⟩ : ∃ k : Nat, x1 = k := ⟨x1.toNat, by omega⟩
      by_cases c2 : 1 ≤ x2 ∧ x2 ≤ 16
      · by_cases c3 : 1 ≤ x3 ∧ x3 ≤ 8
        · refine ⟨1, _, _, rgb (by omega) (itp (by omega) (cab (xport1 (by omega) (by omega)) (rgb (by omega) (itn (by omega) (cab (xwi1 (by unfold ir; omega) (by unfold ir; omega) c2) (rgb (by omega) (itn (by omega) (cab (xwi1 (by unfold ir; omega) (by unfold ir; omega) c3) (rgb (by omega) (itn (by omega) (azb rfl (by omega) (stNb (azb rfl (by omega) (stNb rfl)))))))))))))), rgb (by omega) (itp c0 (cab (yport1 (by omega) c1) (rgb (by omega) (itn (by omega) (cab (ywi1 (by unfold ir; omega) (by unfold ir; omega) c2) (rgb (by omega) (itn (by omega) (cab (ywi1 (by unfold ir; omega) (by unfold ir; omega) c3) (rgb (by omega) (itn (by omega) (azb rfl (by omega) (stNb (azb rfl (by omega) (stNb rfl)))))))))))))), shape_rel H c1.2 c2 c3⟩
        · exact ⟨0, a, r, rgb (by omega) (itp (by omega) (cab (xport1 (by omega) (by omega)) (rgb (by omega) (itn (by omega) (cab (xwi1 (by unfold ir; omega) (by unfold ir; omega) c2) (rgb (by omega) (itn (by omega) (cab (xwi0 h3 (by unfold ir; omega) (by unfold ir; omega) c3) (rgb (by omega) (itp rfl rfl)))))))))), rgb (by omega) (itp c0 (cab (yport1 (by omega) c1) (rgb (by omega) (itn (by omega) (cab (ywi1 (by unfold ir; omega) (by unfold ir; omega) c2) (rgb (by omega) (itn (by omega) (cab (ywi0 h3 (by unfold ir; omega) (by unfold ir; omega) c3) (rgb (by omega) (itp rfl rfl)))))))))), H⟩
      · exact ⟨0, a, r, rgb (by omega) (itp (by omega) (cab (xport1 (by omega) (by omega)) (rgb (by omega) (itn (by omega) (cab (xwi0 h2 (by unfold ir; omega) (by unfold ir; omega) c2) (rgb (by omega) (itp rfl rfl))))))), rgb (by omega) (itp c0 (cab (yport1 (by omega) c1) (rgb (by omega) (itn (by omega) (cab (ywi0 h2 (by unfold ir; omega) (by unfold ir; omega) c2) (rgb (by omega) (itp rfl rfl))))))), H⟩
    · exact ⟨0, a, r, rgb (by omega) (itp (by omega) (cab (xport0 h1 (by omega) (by omega)) (rgb (by omega) (itp rfl rfl)))), rgb (by omega) (itp c0 (cab (yport0 h1 (by omega) c1) (rgb (by omega) (itp rfl rfl)))), H⟩
  · exact ⟨0, a, r, rgb (by omega) (itn (by omega) rfl), rgb (by omega) (itn c0 rfl), H⟩
theorem tune_rel (H : Rel B 64 a r) {f : Nat} (hf : (f : Int) < r.1 0 0 9) (h2 : 1 ≤ x2 ∧ x2 ≤ 8) (h3 : 1 ≤ x3 ∧ x3 ≤ 200) (h4 : 0 ≤ x4 ∧ x4 ≤ 1000) : Rel B 64 (pN (pN (pN a 9 f 4 x2) 9 f 5 x3) 9 f 6 x4) (pN (pN (pN r 13 0 f x2) 14 0 f x3) 15 0 f x4) := by
  refine ⟨rG_c (fun _ => rfl) rfl (fun _ => rfl) (Int.le_refl _) H.G, rK_c (fun q j hj => rfl) rfl rfl rfl rfl rfl rfl H.K, rS_c (fun _ => ⟨rfl, rfl⟩) rfl rfl rfl H.S, rD_c rfl rfl rfl rfl rfl rfl H.D, fun g hg => ?_, rP_c rfl (Int.le_refl _) (Int.le_refl _) (fun _ _ => ⟨rfl, rfl, rfl⟩) rfl rfl rfl rfl rfl rfl (Int.le_refl _) H.P, fun q hq => ⟨rQ_c rfl rfl rfl rfl rfl (H.Q hq), rL_c rfl rfl rfl rfl (Int.le_refl _) rfl rfl rfl rfl rfl rfl (Int.le_refl _) (H.L hq), rO_c rfl rfl rfl (H.O hq)⟩, rA_c rfl rfl rfl rfl rfl rfl rfl rfl rfl rfl rfl rfl (Int.le_refl _) (Int.le_refl _) H.A, rN_c (fun _ => rfl) rfl rfl rfl rfl rfl H.N, rT_c rfl rfl rfl H.T⟩
  have x := H.F g hg
  simp only [pN_if]
  by_cases e : g = f
  · subst e
    simp
    omega
  · simp [e]
    omega
theorem g_tune (H : Rel B 64 a r) (h1 : ir x1) (h2 : ir x2) (h3 : ir x3) (h4 : ir x4) : goes B a r (di_X_tune x1 x2 x3 x4) (di_Y_tune x1 x2 x3 x4) := by
  have hG := H.G
  unfold rG at hG
  by_cases c0 : r.1 0 0 35 = 0
  · by_cases c1 : 0 ≤ x1 ∧ x1 < r.1 0 0 9
    · obtain ⟨f, rfl⟩ : ∃ k : Nat, x1 = k := ⟨x1.toNat, by omega⟩
      by_cases c2 : 1 ≤ x2 ∧ x2 ≤ 8
      · by_cases c3 : 1 ≤ x3 ∧ x3 ≤ 200
        · by_cases c4 : 0 ≤ x4 ∧ x4 ≤ 1000
          · refine ⟨1, _, _, rgb (by omega) (itp (by omega) (cab (xflow1 (by omega) (by omega)) (rgb (by omega) (itn (by omega) (cab (xwi1 (by unfold ir; omega) (by unfold ir; omega) c2) (rgb (by omega) (itn (by omega) (cab (xwi1 (by unfold ir; omega) (by unfold ir; omega) c3) (rgb (by omega) (itn (by omega) (cab (xwi1 (by unfold ir; omega) (by unfold ir; omega) c4) (rgb (by omega) (itn (by omega) (azb rfl (by omega) (stNb (azb rfl (by omega) (stNb (azb rfl (by omega) (stNb rfl))))))))))))))))))), rgb (by omega) (itp c0 (cab (yflow1 (by omega) c1) (rgb (by omega) (itn (by omega) (cab (ywi1 (by unfold ir; omega) (by unfold ir; omega) c2) (rgb (by omega) (itn (by omega) (cab (ywi1 (by unfold ir; omega) (by unfold ir; omega) c3) (rgb (by omega) (itn (by omega) (cab (ywi1 (by unfold ir; omega) (by unfold ir; omega) c4) (rgb (by omega) (itn (by omega) (azb rfl (by omega) (stNb (azb rfl (by omega) (stNb (azb rfl (by omega) (stNb rfl))))))))))))))))))), tune_rel H c1.2 c2 c3 c4⟩
          · exact ⟨0, a, r, rgb (by omega) (itp (by omega) (cab (xflow1 (by omega) (by omega)) (rgb (by omega) (itn (by omega) (cab (xwi1 (by unfold ir; omega) (by unfold ir; omega) c2) (rgb (by omega) (itn (by omega) (cab (xwi1 (by unfold ir; omega) (by unfold ir; omega) c3) (rgb (by omega) (itn (by omega) (cab (xwi0 h4 (by unfold ir; omega) (by unfold ir; omega) c4) (rgb (by omega) (itp rfl rfl))))))))))))), rgb (by omega) (itp c0 (cab (yflow1 (by omega) c1) (rgb (by omega) (itn (by omega) (cab (ywi1 (by unfold ir; omega) (by unfold ir; omega) c2) (rgb (by omega) (itn (by omega) (cab (ywi1 (by unfold ir; omega) (by unfold ir; omega) c3) (rgb (by omega) (itn (by omega) (cab (ywi0 h4 (by unfold ir; omega) (by unfold ir; omega) c4) (rgb (by omega) (itp rfl rfl))))))))))))), H⟩
        · exact ⟨0, a, r, rgb (by omega) (itp (by omega) (cab (xflow1 (by omega) (by omega)) (rgb (by omega) (itn (by omega) (cab (xwi1 (by unfold ir; omega) (by unfold ir; omega) c2) (rgb (by omega) (itn (by omega) (cab (xwi0 h3 (by unfold ir; omega) (by unfold ir; omega) c3) (rgb (by omega) (itp rfl rfl)))))))))), rgb (by omega) (itp c0 (cab (yflow1 (by omega) c1) (rgb (by omega) (itn (by omega) (cab (ywi1 (by unfold ir; omega) (by unfold ir; omega) c2) (rgb (by omega) (itn (by omega) (cab (ywi0 h3 (by unfold ir; omega) (by unfold ir; omega) c3) (rgb (by omega) (itp rfl rfl)))))))))), H⟩
      · exact ⟨0, a, r, rgb (by omega) (itp (by omega) (cab (xflow1 (by omega) (by omega)) (rgb (by omega) (itn (by omega) (cab (xwi0 h2 (by unfold ir; omega) (by unfold ir; omega) c2) (rgb (by omega) (itp rfl rfl))))))), rgb (by omega) (itp c0 (cab (yflow1 (by omega) c1) (rgb (by omega) (itn (by omega) (cab (ywi0 h2 (by unfold ir; omega) (by unfold ir; omega) c2) (rgb (by omega) (itp rfl rfl))))))), H⟩
    · exact ⟨0, a, r, rgb (by omega) (itp (by omega) (cab (xflow0 h1 (by omega) (by omega)) (rgb (by omega) (itp rfl rfl)))), rgb (by omega) (itp c0 (cab (yflow0 h1 (by omega) c1) (rgb (by omega) (itp rfl rfl)))), H⟩
  · exact ⟨0, a, r, rgb (by omega) (itn (by omega) rfl), rgb (by omega) (itn c0 rfl), H⟩
end SHAPE
