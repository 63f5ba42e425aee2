/-! ===== the agenda: one slot set, one slot unset, nothing changed ===== -/
theorem rA_set {B B1 : Int} {h h1 : Nat} {a a1 r r1 : MemI} {s0 : Nat} {kd tk : Int} (H : rA B h a r) (hkd : kd ≠ 0)
    (k1 : ∀ s, s ≠ s0 → a1.1 13 0 s = a.1 13 0 s) (k2 : a1.1 13 0 s0 = kd) (t1 : ∀ s, s ≠ s0 → a1.1 14 0 s = a.1 14 0 s) (t2 : a1.1 14 0 s0 = tk) (u1 : ∀ s, s ≠ s0 → a1.1 15 0 s = a.1 15 0 s) (u2 : a1.1 15 0 s0 = a.1 12 0 3) (v : a1.1 12 0 3 = a.1 12 0 3 + 1) (v0 : 0 ≤ a.1 12 0 3)
    (q1 : ∀ s, s < 70 → s ≠ s0 → rk r1 h1 s = rk r h s) (q2 : rk r1 h1 s0 = kd) (w1 : ∀ s, s < 70 → s ≠ s0 → rk r h s ≠ 0 → rt r1 s = rt r s ∧ ru r1 s = ru r s) (w2 : rt r1 s0 = tk ∧ 0 ≤ tk ∧ tk ≤ B1) (w3 : r.1 0 0 37 < ru r1 s0 ∧ ru r1 s0 ≤ r1.1 0 0 37) (w4 : 0 ≤ r.1 0 0 37) (hB : B ≤ B1) : rA B1 h1 a1 r1 := by
  obtain ⟨H1, H2, H3⟩ := H
  refine ⟨fun s hs => ?_, fun s hs hk => ?_, fun s t hs ht hst ks kt => ?_⟩
  · by_cases e : s = s0
    · rw [e, k2, q2]
    · rw [k1 s e, q1 s hs e]; exact H1 s hs
  · by_cases e : s = s0
    · rw [e, t2, w2.1, u2, v]
      refine ⟨rfl, w2.2.1, w2.2.2, v0, ?_, ?_, w3.2⟩ <;> omega
    · rw [q1 s hs e] at hk
      have x := H2 s hs hk
      have y := w1 s hs e hk
      rw [t1 s e, y.1, y.2, u1 s e, v]
      refine ⟨x.1, x.2.1, ?_, x.2.2.2.1, ?_, x.2.2.2.2.2.1, ?_⟩ <;> omega
  · by_cases e : s = s0
    · have et : t ≠ s0 := fun q => hst (e.trans q.symm)
      rw [q1 t ht et] at kt
      have x := H2 t ht kt
      have y := w1 t ht et kt
      rw [e, u2, u1 t et, y.2]
      exact Or.inr ⟨x.2.2.2.2.1, by omega⟩
    · rw [q1 s hs e] at ks
      have x := H2 s hs ks
      have y := w1 s hs e ks
      by_cases et : t = s0
      · rw [et, u2, u1 s e, y.2]
        exact Or.inl ⟨x.2.2.2.2.1, by omega⟩
      · rw [q1 t ht et] at kt
        have y2 := w1 t ht et kt
        rw [u1 s e, u1 t et, y.2, y2.2]
        exact H3 s t hs ht hst ks kt
theorem rA_fr {B B1 : Int} {h h1 : Nat} {a a1 r r1 : MemI} (H : rA B h a r) (k1 : ∀ s, s < 70 → a1.1 13 0 s = rk r1 h1 s)
    (t1 : ∀ s, a1.1 14 0 s = a.1 14 0 s) (u1 : ∀ s, a1.1 15 0 s = a.1 15 0 s) (v : a1.1 12 0 3 = a.1 12 0 3)
    (q1 : ∀ s, s < 70 → rk r1 h1 s ≠ 0 → rk r h s ≠ 0 ∧ rt r1 s = rt r s ∧ ru r1 s = ru r s) (w4 : r.1 0 0 37 ≤ r1.1 0 0 37) (hB : B ≤ B1) : rA B1 h1 a1 r1 := by
  obtain ⟨H1, H2, H3⟩ := H
  refine ⟨k1, fun s hs hk => ?_, fun s t hs ht hst ks kt => ?_⟩
  · have y := q1 s hs hk
    have x := H2 s hs y.1
    rw [t1 s, y.2.1, y.2.2, u1 s, v]
    refine ⟨x.1, x.2.1, ?_, x.2.2.2.1, x.2.2.2.2.1, x.2.2.2.2.2.1, ?_⟩ <;> omega
  · have y := q1 s hs ks
    have z := q1 t ht kt
    rw [u1 s, u1 t, y.2.2, z.2.2]
    exact H3 s t hs ht hst y.1 z.1
/-- the first event: both sides find the same slot -/
def isFirst (r : MemI) (h s : Nat) : Prop := s < 70 ∧ rk r h s ≠ 0 ∧ ∀ t, t < 70 → t ≠ s → rk r h t ≠ 0 → rt r s < rt r t ∨ (rt r s = rt r t ∧ ru r s < ru r t)
theorem isFirst_uni {r : MemI} {h s t : Nat} (hs : isFirst r h s) (ht : isFirst r h t) : s = t := by
  by_cases e : s = t
  · exact e
  · have x := hs.2.2 t ht.1 (fun q => e q.symm) ht.2.1
    have y := ht.2.2 s hs.1 e hs.2.1
    omega
