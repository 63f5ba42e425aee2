/-! ===== counting ===== -/
/-- how many of the first m numbers have q -/
def cnt (q : Nat → Bool) : Nat → Nat
  | 0 => 0
  | m + 1 => cnt q m + (if q m then 1 else 0)
theorem cnt_le (q : Nat → Bool) : ∀ m, cnt q m ≤ m := by
  intro m
  induction m with
  | zero => exact Nat.le_refl _
  | succ m ih =>
    show cnt q m + _ ≤ m + 1
    split <;> omega
theorem cnt_congr {q w : Nat → Bool} : ∀ {m : Nat}, (∀ k, k < m → q k = w k) → cnt q m = cnt w m := by
  intro m
  induction m with
  | zero => intro _; rfl
  | succ m ih =>
    intro h
    show cnt q m + _ = cnt w m + _
    rw [ih (fun k hk => h k (by omega)), h m (by omega)]
theorem cnt_none {q : Nat → Bool} : ∀ {m : Nat}, (∀ k, k < m → q k = false) → cnt q m = 0 := by
  intro m
  induction m with
  | zero => intro _; rfl
  | succ m ih =>
    intro h
    show cnt q m + _ = 0
    rw [ih (fun k hk => h k (by omega)), h m (by omega)]
    rfl
theorem cnt_pos {q : Nat → Bool} : ∀ {m : Nat}, 0 < cnt q m → ∃ k, k < m ∧ q k = true := by
  intro m
  induction m with
  | zero => intro h; exact absurd h (Nat.lt_irrefl 0)
  | succ m ih =>
    intro h
    by_cases c : q m = true
    · exact ⟨m, by omega, c⟩
    · have h1 : cnt q m + (if q m then 1 else 0) > 0 := h
      rw [if_neg c] at h1
      obtain ⟨k, hk, e⟩ := ih (by omega)
      exact ⟨k, by omega, e⟩
theorem cnt_pos_of {q : Nat → Bool} {k : Nat} (e : q k = true) : ∀ {m : Nat}, k < m → 0 < cnt q m := by
  intro m
  induction m with
  | zero => intro h; exact absurd h (Nat.not_lt_zero _)
  | succ m ih =>
    intro h
    show 0 < cnt q m + _
    by_cases c : k = m
    · rw [← c, e]; simp
    · have := ih (by omega); omega
/-- one more -/
theorem cnt_add {q w : Nat → Bool} {j : Nat} (hq : q j = false) (hw : w j = true) (h : ∀ k, k ≠ j → q k = w k) : ∀ {m : Nat}, j < m → cnt w m = cnt q m + 1 := by
  intro m
  induction m with
  | zero => intro h; exact absurd h (Nat.not_lt_zero _)
  | succ m ih =>
    intro hj
    show cnt w m + _ = cnt q m + _ + 1
    by_cases c : j = m
    · subst c
      rw [hq, hw, cnt_congr (q := w) (w := q) (fun k hk => (h k (by omega)).symm)]
      rfl
    · rw [ih (by omega), h m (fun e => c e.symm)]
      omega
/-- a row without repetition: what it holds is counted by the row -/
theorem cnt_enum {q : Nat → Nat} {T : Nat → Bool} {m : Nat} : ∀ {n : Nat} {w : Nat → Bool}, (∀ i, i < n → q i < m) → (∀ i j, i < n → j < n → q i = q j → i = j) →
    (∀ k, k < m → (w k = true ↔ (∃ i, i < n ∧ q i = k) ∧ T k = true)) → cnt w m = cnt (fun i => T (q i)) n := by
  intro n
  induction n with
  | zero =>
    intro w _ _ hw
    refine cnt_none fun k hk => ?_
    cases e : w k with
    | false => rfl
    | true => obtain ⟨⟨i, hi, -⟩, -⟩ := (hw k hk).mp e; exact absurd hi (Nat.not_lt_zero _)
  | succ n ih =>
    intro w hq inj hw
    have hn : q n < m := hq n (by omega)
    have r1 : cnt (fun k => w k && !(k == q n)) m = cnt (fun i => T (q i)) n := by
      refine ih (fun i hi => hq i (by omega)) (fun i j hi hj => inj i j (by omega) (by omega)) (fun k hk => ?_)
      have h1 := hw k hk
      by_cases e : k = q n
      · subst e
        refine ⟨fun h => ?_, fun h => ?_⟩
        · simp at h
        · obtain ⟨⟨i, hi, he⟩, -⟩ := h
          have := inj i n (by omega) (by omega) he
          omega
      · have e1 : (k == q n) = false := by simp [e]
        rw [show (w k && !(k == q n)) = w k by rw [e1]; simp, h1]
        refine ⟨fun h => ⟨?_, h.2⟩, fun h => ⟨?_, h.2⟩⟩
        · obtain ⟨⟨i, hi, he⟩, -⟩ := h
          refine ⟨i, ?_, he⟩
          by_cases c : i = n
          · subst c; exact absurd he.symm e
          · omega
        · obtain ⟨⟨i, hi, he⟩, -⟩ := h
          exact ⟨i, by omega, he⟩
    show _ = cnt (fun i => T (q i)) n + (if T (q n) then 1 else 0)
    rw [← r1]
    cases eT : T (q n) with
    | true =>
      rw [if_pos rfl]
      refine cnt_add (j := q n) (by simp) ((hw _ hn).mpr ⟨⟨n, by omega, rfl⟩, eT⟩) (fun k hk => ?_) hn
      have e1 : (k == q n) = false := by simp [hk]
      rw [e1]; simp
    | false =>
      rw [if_neg (by decide)]
      show cnt w m = cnt (fun k => w k && !(k == q n)) m
      refine cnt_congr fun k hk => ?_
      by_cases e : k = q n
      · subst e
        cases ew : w (q n) with
        | false => simp
        | true => have := ((hw _ hn).mp ew).2; rw [eT] at this; cases this
      · have e1 : (k == q n) = false := by simp [e]
        rw [e1]; simp
