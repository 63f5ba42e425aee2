/-! ===== what each part of the relation looks at ===== -/
section FRAME
variable {B B1 : Int} {h : Nat} {a a1 r r1 : MemI}
theorem rG_c (ha : ∀ j, a1.1 0 0 j = a.1 0 0 j) (h12 : a1.1 12 0 3 = a.1 12 0 3) (hr : ∀ j, r1.1 0 0 j = r.1 0 0 j) (hB : B ≤ B1) (H : rG B a r) : rG B1 a1 r1 := by
  unfold rG at *
  simp only [ha, h12, hr]
  omega
theorem rK_c (ha : ∀ p j, j < 5 → a1.1 4 p j = a.1 4 p j) (h0 : r1.1 0 0 0 = r.1 0 0 0) (h1 : r1.1 1 = r.1 1) (h2 : r1.1 2 = r.1 2) (h3 : r1.1 3 = r.1 3) (h4 : r1.1 4 = r.1 4) (h5 : r1.1 5 = r.1 5) (H : rK a r) : rK a1 r1 := by
  unfold rK at *
  rw [h0, h1, h2, h3, h4, h5]
  intro l hl
  rw [ha _ 0 (by omega), ha _ 1 (by omega), ha _ 2 (by omega), ha _ 3 (by omega), ha _ 4 (by omega), ha _ 0 (by omega), ha _ 1 (by omega), ha _ 2 (by omega), ha _ 3 (by omega), ha _ 4 (by omega)]
  exact H l hl
theorem rS_c (ha : ∀ p, a1.1 4 p 5 = a.1 4 p 5 ∧ a1.1 4 p 6 = a.1 4 p 6) (h0 : r1.1 0 0 0 = r.1 0 0 0) (h6 : r1.1 6 = r.1 6) (h7 : r1.1 7 = r.1 7) (H : rS a r) : rS a1 r1 := by
  unfold rS at *
  rw [h0, h6, h7]
  intro p hp
  rw [(ha p).1, (ha p).2]
  exact H p hp
theorem rD_c (ha : a1.1 2 = a.1 2) (h0 : r1.1 0 0 0 = r.1 0 0 0) (h1 : r1.1 1 = r.1 1) (h2 : r1.1 2 = r.1 2) (h3 : r1.1 3 = r.1 3) (h8 : r1.1 8 = r.1 8) (H : rD a r) : rD a1 r1 := by
  have e : rM r1 = rM r := by
    unfold rM
    rw [h8]
  unfold rD at *
  rw [e, ha, h0, h1, h2, h3]
  exact H
theorem rF_c (ha : a1.1 9 = a.1 9) (h0 : r1.1 0 0 9 = r.1 0 0 9) (hr : ∀ c, 9 ≤ c → c ≤ 18 → r1.1 c = r.1 c) (h23 : r1.1 23 = r.1 23) (hB : B ≤ B1) (H : rF B a r) : rF B1 a1 r1 := by
  unfold rF at *
  rw [h0, ha, h23, hr 9 (by omega) (by omega), hr 10 (by omega) (by omega), hr 11 (by omega) (by omega), hr 12 (by omega) (by omega), hr 13 (by omega) (by omega), hr 14 (by omega) (by omega), hr 15 (by omega) (by omega), hr 16 (by omega) (by omega), hr 17 (by omega) (by omega), hr 18 (by omega) (by omega)]
  intro f hf
  obtain ⟨x1, x2, x3, x4⟩ := H f hf
  exact ⟨x1, x2, x3, by omega⟩
theorem rLab_c {k : Nat} (ha : ∀ j, a1.1 11 k j = a.1 11 k j ∨ j = 0 ∨ j = 6) (h0 : r.1 0 0 9 ≤ r1.1 0 0 9) (h9 : ∀ f : Nat, (f : Int) < r.1 0 0 9 → r1.1 9 0 f = r.1 9 0 f ∧ r1.1 10 0 f = r.1 10 0 f ∧ r1.1 12 0 f = r.1 12 0 f) (h25 : r1.1 25 0 k = r.1 25 0 k) (h26 : r1.1 26 0 k = r.1 26 0 k) (h27 : r1.1 27 0 k = r.1 27 0 k) (H : rLab a r k) : rLab a1 r1 k := by
  have e1 := (ha 1).resolve_right (by omega)
  have e2 := (ha 2).resolve_right (by omega)
  have e3 := (ha 3).resolve_right (by omega)
  have e4 := (ha 4).resolve_right (by omega)
  have e5 := (ha 5).resolve_right (by omega)
  unfold rLab at *
  have hf := h9 (r.1 25 0 k).toNat (by omega)
  rw [e1, e2, e3, e4, e5, h25, h26, h27, hf.1, hf.2.1, hf.2.2]
  refine ⟨H.1, H.2.1, H.2.2.1, H.2.2.2.1, by omega, H.2.2.2.2.2.1, H.2.2.2.2.2.2.1, H.2.2.2.2.2.2.2.1, H.2.2.2.2.2.2.2.2.1, H.2.2.2.2.2.2.2.2.2.1, H.2.2.2.2.2.2.2.2.2.2⟩
theorem rP_c (ha : a1.1 11 = a.1 11) (hl : r.1 0 0 0 ≤ r1.1 0 0 0) (h0 : r.1 0 0 9 ≤ r1.1 0 0 9) (h9 : ∀ f : Nat, (f : Int) < r.1 0 0 9 → r1.1 9 0 f = r.1 9 0 f ∧ r1.1 10 0 f = r.1 10 0 f ∧ r1.1 12 0 f = r.1 12 0 f) (h24 : r1.1 24 = r.1 24) (h25 : r1.1 25 = r.1 25) (h26 : r1.1 26 = r.1 26) (h27 : r1.1 27 = r.1 27) (h28 : r1.1 28 = r.1 28) (h30 : r1.1 30 = r.1 30) (h37 : r.1 0 0 37 ≤ r1.1 0 0 37) (H : rP h a r) : rP h a1 r1 := by
  have L : ∀ k, rLab a r k → rLab a1 r1 k := fun k => rLab_c (fun j => Or.inl (by rw [ha])) h0 h9 (by rw [h25]) (by rw [h26]) (by rw [h27])
  refine ⟨fun k hk e => ?_, fun hh => ?_⟩
  · rw [ha, h24, h28, h30]
    rcases H.1 k hk e with x | x
    · exact Or.inl x
    · exact Or.inr ⟨x.1, x.2.1, x.2.2.1, L k x.2.2.2.1, x.2.2.2.2.1, x.2.2.2.2.2.1, by omega, by omega⟩
  · rw [ha, h24]
    have x := H.2 hh
    exact ⟨x.1, x.2.1, L h x.2.2⟩
theorem rQ_c {p : Nat} (h8 : a1.1 4 p 8 = a.1 4 p 8) (h5 : a1.1 5 = a.1 5) (h24 : r1.1 24 = r.1 24) (h28 : r1.1 28 = r.1 28) (h30 : r1.1 30 = r.1 30) (H : rQ a r p) : rQ a1 r1 p := by
  unfold rQ at *
  rw [h8, h5, h24, h28, h30]
  exact H
theorem rL_c {p : Nat} (h9 : a1.1 4 p 9 = a.1 4 p 9) (h10 : a1.1 4 p 10 = a.1 4 p 10) (h6 : a1.1 6 = a.1 6) (h7 : a1.1 7 = a.1 7) (h0 : r.1 0 0 9 ≤ r1.1 0 0 9) (h24 : r1.1 24 = r.1 24) (h25 : r1.1 25 = r.1 25) (h28 : r1.1 28 = r.1 28) (h31 : r1.1 31 = r.1 31) (h32 : r1.1 32 = r.1 32) (h33 : r1.1 33 = r.1 33) (h37 : r.1 0 0 37 ≤ r1.1 0 0 37) (H : rL a r p) : rL a1 r1 p := by
  unfold rL at *
  rw [h9, h10, h6, h7, h24, h25, h28, h31, h32, h33]
  obtain ⟨x1, x2, x3, x4, x5, x6, x7, x8⟩ := H
  refine ⟨x1, x2, x3, x4, fun i hi => ?_, x6, x7, x8⟩
  have y := x5 i hi
  exact ⟨y.1, by omega, y.2.2.1, y.2.2.2.1, y.2.2.2.2.1, by omega, y.2.2.2.2.2.2⟩
theorem rO_c {p : Nat} (h7 : a1.1 4 p 7 = a.1 4 p 7) (h24 : r1.1 24 = r.1 24) (h28 : r1.1 28 = r.1 28) (H : rO a r p) : rO a1 r1 p := by
  unfold rO at *
  rw [h7, h24, h28]
  exact H
theorem rk_c {s : Nat} (h0 : r1.1 0 0 9 = r.1 0 0 9) (h19 : r1.1 19 = r.1 19) (h21 : r1.1 21 = r.1 21) (h24 : r1.1 24 = r.1 24) : rk r1 h s = rk r h s := by
  unfold rk
  rw [h0, h19, h21, h24]
theorem rt_c {s : Nat} (h19 : r1.1 19 = r.1 19) (h21 : r1.1 21 = r.1 21) (h29 : r1.1 29 = r.1 29) : rt r1 s = rt r s := by
  unfold rt
  rw [h19, h21, h29]
theorem ru_c {s : Nat} (h19 : r1.1 19 = r.1 19) (h20 : r1.1 20 = r.1 20) (h22 : r1.1 22 = r.1 22) (h30 : r1.1 30 = r.1 30) : ru r1 s = ru r s := by
  unfold ru
  rw [h19, h20, h22, h30]
theorem rA_c (h12 : a1.1 12 0 3 = a.1 12 0 3) (h13 : a1.1 13 = a.1 13) (h14 : a1.1 14 = a.1 14) (h15 : a1.1 15 = a.1 15) (h0 : r1.1 0 0 9 = r.1 0 0 9) (h19 : r1.1 19 = r.1 19) (h20 : r1.1 20 = r.1 20) (h21 : r1.1 21 = r.1 21) (h22 : r1.1 22 = r.1 22) (h24 : r1.1 24 = r.1 24) (h29 : r1.1 29 = r.1 29) (h30 : r1.1 30 = r.1 30) (h37 : r.1 0 0 37 ≤ r1.1 0 0 37) (hB : B ≤ B1) (H : rA B h a r) : rA B1 h a1 r1 := by
  refine rA_fr H (fun s hs => ?_) (fun s => by rw [h14]) (fun s => by rw [h15]) h12 (fun s hs hk => ?_) h37 hB
  · rw [h13, rk_c h0 h19 h21 h24]
    exact H.1 s hs
  · rw [rk_c h0 h19 h21 h24] at hk
    exact ⟨hk, rt_c h19 h21 h29, ru_c h19 h20 h22 h30⟩
theorem rN_c (ha : ∀ k, a1.1 11 k 0 = a.1 11 k 0) (h0 : r1.1 0 0 9 = r.1 0 0 9) (h35 : r1.1 0 0 35 = r.1 0 0 35) (h19 : r1.1 19 = r.1 19) (h21 : r1.1 21 = r.1 21) (h25 : r1.1 25 = r.1 25) (H : rN a r) : rN a1 r1 := by
  unfold rN at *
  rw [h0, h35, h19, h21, h25]
  simp only [ha]
  exact H
theorem rT_c (ha : a1.2 = a.2) (hr : r1.2 = r.2) (h38 : r1.1 0 0 38 = r.1 0 0 38) (H : rT a r) : rT a1 r1 := by
  unfold rT at *
  rw [ha, hr, h38]
  exact H
theorem Rel.mono (hB : B ≤ B1) (H : Rel B h a r) : Rel B1 h a r :=
  ⟨rG_c (fun _ => rfl) rfl (fun _ => rfl) hB H.G, H.K, H.S, H.D, rF_c rfl rfl (fun _ _ _ => rfl) rfl hB H.F, H.P, H.2.2.2.2.2.2.1, rA_c rfl rfl rfl rfl rfl rfl rfl rfl rfl rfl rfl rfl (Int.le_refl _) hB H.A, H.N, H.T⟩
end FRAME
/-! ===== reading behind a write ===== -/
theorem pN_at (z : MemI) (kc ki j : Nat) (v : Int) : (pN z kc ki j v).1 kc ki j = v := if_pos ⟨rfl, rfl, rfl⟩
theorem pN_ne {z : MemI} {kc ki j c i k : Nat} {v : Int} (hn : ¬ (c = kc ∧ i = ki ∧ k = j)) : (pN z kc ki j v).1 c i k = z.1 c i k := if_neg hn
theorem pN_if (z : MemI) (kc ki j c i k : Nat) (v : Int) : (pN z kc ki j v).1 c i k = if c = kc ∧ i = ki ∧ k = j then v else z.1 c i k := rfl
theorem pN_2 (z : MemI) (kc ki j : Nat) (v : Int) : (pN z kc ki j v).2 = z.2 := rfl
