/-! ===== how a di function is worked out, a line a step ===== -/
theorem rgb {α : Type} {x : Int} {f : Unit → Option α} {r : Option α} (h : -2147483648 ≤ x ∧ x < 2147483648) (k : f () = r) : (rg x).bind f = r := by rw [rg_ok h]; exact k
theorem rlb {α : Type} {x : Int} {f : Unit → Option α} {r : Option α} (h : -9223372036854775808 ≤ x ∧ x < 9223372036854775808) (k : f () = r) : (rl x).bind f = r := by rw [rl_ok h]; exact k
theorem nnb {α : Type} {x : Int} {f : Unit → Option α} {r : Option α} (h : 0 ≤ x ∧ x < 2147483648) (k : f () = r) : (nn x).bind f = r := by rw [nn_ok h]; exact k
theorem nlb {α : Type} {x : Int} {f : Unit → Option α} {r : Option α} (h : 0 ≤ x ∧ x < 9223372036854775808) (k : f () = r) : (nl x).bind f = r := by rw [nl_ok h]; exact k
theorem azb {α : Type} {n j : Nat} {x : Int} {f : Nat → Option α} {r : Option α} (hx : x = (j : Int)) (hj : j < n) (k : f j = r) : (aiz n x).bind f = r := by rw [aiz_at hx hj]; exact k
theorem bz0b {α : Type} {f : Unit → Option α} {r : Option α} (k : f () = r) : (biz 0).bind f = r := k
theorem bz1b {α : Type} {f : Unit → Option α} {r : Option α} (k : f () = r) : (biz 1).bind f = r := k
theorem bzb {α : Type} {x : Int} {f : Unit → Option α} {r : Option α} (h : x = 0 ∨ x = 1) (k : f () = r) : (biz x).bind f = r := by rw [biz_ok h]; exact k
theorem acb {α : Type} {n : Nat} {sp dp ln : Int} {f : Unit → Option α} {r : Option α} (h : 0 ≤ sp ∧ 0 ≤ dp ∧ 0 ≤ ln ∧ sp + ln ≤ n ∧ dp + ln ≤ n) (k : f () = r) : (acz n sp dp ln).bind f = r := by rw [acz_ok h]; exact k
theorem stNb {α : Type} {z : MemI} {f : MemI → Option α} {r : Option α} (k : f z = r) : stN z f = r := k
theorem stWb {α : Type} {x : Int} {f : Int → Option α} {r : Option α} (k : f x = r) : stW x f = r := k
theorem itp {α : Type} {c : Prop} {i : Decidable c} {a b r : α} (hc : c) (k : a = r) : (@ite α c i a b) = r := by rw [if_pos hc]; exact k
theorem itn {α : Type} {c : Prop} {i : Decidable c} {a b r : α} (hc : ¬ c) (k : b = r) : (@ite α c i a b) = r := by rw [if_neg hc]; exact k
theorem cab {α β : Type} {o : Option α} {v : α} {f : α → Option β} {r : Option β} (h : o = some v) (k : f v = r) : o.bind f = r := by rw [h]; exact k
/-! ===== the small questions ===== -/
theorem xnode1 {x : Int} (h : 0 ≤ x ∧ x ≤ 7) : di_X_isNode x = some 1 := rgb (by omega) (itn (by omega) (itn (by omega) rfl))
theorem xnode0 {x : Int} (h : ir x) (h0 : ¬ (0 ≤ x ∧ x ≤ 7)) : di_X_isNode x = some 0 := by
  refine rgb h ?_
  by_cases c : x < 0
  · exact itp c rfl
  · exact itn c (itp (by omega) rfl)
theorem ynode1 {x : Int} (h : 0 ≤ x ∧ x ≤ 7) : di_Y_node x = some 1 := rgb (by omega) (itn (by omega) (itn (by omega) rfl))
theorem ynode0 {x : Int} (h : ir x) (h0 : ¬ (0 ≤ x ∧ x ≤ 7)) : di_Y_node x = some 0 := by
  refine rgb h ?_
  by_cases c : x < 0
  · exact itp c rfl
  · exact itn c (itp (by omega) rfl)
theorem xwi1 {x lo hi : Int} (h1 : ir lo) (h2 : ir hi) (h : lo ≤ x ∧ x ≤ hi) : di_X_isWithin x lo hi = some 1 := rgb (by unfold ir at h1 h2; omega) (rgb h1 (itn (by omega) (rgb h2 (itn (by omega) rfl))))
theorem xwi0 {x lo hi : Int} (h0 : ir x) (h1 : ir lo) (h2 : ir hi) (h : ¬ (lo ≤ x ∧ x ≤ hi)) : di_X_isWithin x lo hi = some 0 := by
  refine rgb h0 (rgb h1 ?_)
  by_cases c : x < lo
  · exact itp c rfl
  · exact itn c (rgb h2 (itp (by omega) rfl))
theorem ywi1 {x lo hi : Int} (h1 : ir lo) (h2 : ir hi) (h : lo ≤ x ∧ x ≤ hi) : di_Y_within x lo hi = some 1 := rgb (by unfold ir at h1 h2; omega) (rgb h1 (itn (by omega) (rgb h2 (itn (by omega) rfl))))
theorem ywi0 {x lo hi : Int} (h0 : ir x) (h1 : ir lo) (h2 : ir hi) (h : ¬ (lo ≤ x ∧ x ≤ hi)) : di_Y_within x lo hi = some 0 := by
  refine rgb h0 (rgb h1 ?_)
  by_cases c : x < lo
  · exact itp c rfl
  · exact itn c (rgb h2 (itp (by omega) rfl))
theorem xport1 {x : Int} {a : MemI} (h6 : a.1 0 0 6 ≤ 12) (h : 0 ≤ x ∧ x < 2 * a.1 0 0 6) : di_X_isPort x a = some (1, a) :=
  cab (xwi1 ⟨by omega, by omega⟩ ⟨by omega, by omega⟩ ⟨by omega, by omega⟩) (bz1b rfl)
theorem xport0 {x : Int} {a : MemI} (hx : ir x) (h6 : 0 ≤ a.1 0 0 6 ∧ a.1 0 0 6 ≤ 12) (h : ¬ (0 ≤ x ∧ x < 2 * a.1 0 0 6)) : di_X_isPort x a = some (0, a) :=
  cab (xwi0 hx ⟨by omega, by omega⟩ ⟨by omega, by omega⟩ (by omega)) (bz0b rfl)
theorem xflow1 {x : Int} {a : MemI} (h6 : a.1 0 0 7 ≤ 6) (h : 0 ≤ x ∧ x < a.1 0 0 7) : di_X_isFlow x a = some (1, a) :=
  cab (xwi1 ⟨by omega, by omega⟩ ⟨by omega, by omega⟩ ⟨by omega, by omega⟩) (bz1b rfl)
theorem xflow0 {x : Int} {a : MemI} (hx : ir x) (h6 : 0 ≤ a.1 0 0 7 ∧ a.1 0 0 7 ≤ 6) (h : ¬ (0 ≤ x ∧ x < a.1 0 0 7)) : di_X_isFlow x a = some (0, a) :=
  cab (xwi0 hx ⟨by omega, by omega⟩ ⟨by omega, by omega⟩ (by omega)) (bz0b rfl)
theorem yport1 {x : Int} {r : MemI} (h6 : r.1 0 0 0 ≤ 12) (h : 0 ≤ x ∧ x < 2 * r.1 0 0 0) : di_Y_isPort x r = some (1, r) :=
  rgb (by omega) (itn (by omega) (rgb (by omega) (itn (by omega) rfl)))
theorem yport0 {x : Int} {r : MemI} (hx : ir x) (h6 : 0 ≤ r.1 0 0 0 ∧ r.1 0 0 0 ≤ 12) (h : ¬ (0 ≤ x ∧ x < 2 * r.1 0 0 0)) : di_Y_isPort x r = some (0, r) := by
  refine rgb hx ?_
  by_cases c : x < 0
  · exact itp c rfl
  · exact itn c (rgb (by omega) (itp (by omega) rfl))
theorem yflow1 {x : Int} {r : MemI} (h6 : r.1 0 0 9 ≤ 6) (h : 0 ≤ x ∧ x < r.1 0 0 9) : di_Y_isFlow x r = some (1, r) :=
  rgb (by omega) (itn (by omega) (rgb (by omega) (itn (by omega) rfl)))
theorem yflow0 {x : Int} {r : MemI} (hx : ir x) (h6 : 0 ≤ r.1 0 0 9 ∧ r.1 0 0 9 ≤ 6) (h : ¬ (0 ≤ x ∧ x < r.1 0 0 9)) : di_Y_isFlow x r = some (0, r) := by
  refine rgb hx ?_
  by_cases c : x < 0
  · exact itp c rfl
  · exact itn c (rgb (by omega) (itp (by omega) rfl))
theorem ylesser {x y : Int} (hx : ir x) (hy : ir y) : di_Y_lesser x y = some (ls x y) := by
  refine rgb hy (rgb hx ?_)
  unfold ls
  by_cases c : y ≤ x
  · refine itp c ?_
    rw [if_neg (by omega)]
  · refine itn c ?_
    rw [if_pos (by omega)]
theorem mmin {x y : Int} (hx : ir x) (hy : ir y) : di_M_min x y = some (if x ≤ y then x else y) := by
  refine rgb hy (rgb hx ?_)
  by_cases c : y < x
  · refine itp c ?_
    rw [if_neg (by omega)]
  · refine itn c ?_
    rw [if_pos (by omega)]
theorem mmax {x y : Int} (hx : ir x) (hy : ir y) : di_M_max x y = some (if x < y then y else x) := by
  refine rgb hx (rgb hy ?_)
  by_cases c : x < y
  · refine itp c ?_
    rw [if_pos c]
  · refine itn c ?_
    rw [if_neg c]
theorem yat {p : Nat} {r : MemI} (hp : p < 24) : di_Y_at (p : Int) r = some ((if p % 2 = 0 then r.1 1 0 (p / 2) else r.1 2 0 (p / 2)), r) := by
  refine nnb (by omega) (rgb (by omega) ?_)
  by_cases c : p % 2 = 0
  · refine itp (by omega) (azb (j := p / 2) (by omega) (by omega) ?_)
    rw [if_pos c]
  · refine itn (by omega) (azb (j := p / 2) (by omega) (by omega) ?_)
    rw [if_neg c]
theorem yleads {p : Nat} {r : MemI} (hp : p < 24) : di_Y_leads (p : Int) r = some ((if p % 2 = 0 then r.1 2 0 (p / 2) else r.1 1 0 (p / 2)), r) := by
  refine nnb (by omega) (rgb (by omega) ?_)
  by_cases c : p % 2 = 0
  · refine itp (by omega) (azb (j := p / 2) (by omega) (by omega) ?_)
    rw [if_pos c]
  · refine itn (by omega) (azb (j := p / 2) (by omega) (by omega) ?_)
    rw [if_neg c]
/-! ===== counting loops ===== -/
/-- the reference: packet k waits at p, of flow f (-1: of any) -/
def qy (r : MemI) (p f : Int) (k : Nat) : Bool := decide (r.1 24 0 k = 1 ∧ r.1 28 0 k = p ∧ (f = -1 ∨ r.1 25 0 k = f))
theorem yqueued_l {r : MemI} {p f : Int} {K : Int → MemI → Option (Int × MemI)} (hs : ∀ k, k < 64 → ir (r.1 24 0 k)) (hp : ∀ k, k < 64 → r.1 24 0 k = 1 → ir (r.1 28 0 k) ∧ ir (r.1 25 0 k)) (h1 : ir p) (h2 : ir f) :
    ∀ (m j n : Nat), j + m = 64 → m < n → di_Y_queued_5 K n p f (cnt (qy r p f) j : Nat) (j : Nat) r = K (cnt (qy r p f) 64 : Nat) r := by
  intro m
  induction m with
  | zero =>
    intro j n hj hn
    obtain ⟨n, rfl⟩ : ∃ q, n = q + 1 := ⟨n - 1, by omega⟩
    have e : j = 64 := by omega
    subst e
    rw [di_Y_queued_5]
    exact rgb (by omega) (itp (by omega) rfl)
  | succ m ih =>
    intro j n hj hn
    obtain ⟨n, rfl⟩ : ∃ q, n = q + 1 := ⟨n - 1, by omega⟩
    have hj64 : j < 64 := by omega
    have ih := ih (j + 1) n (by omega) (by omega)
    rw [di_Y_queued_5]
    refine rgb (by omega) (itn (by omega) (azb rfl hj64 (rgb (hs j hj64) ?_)))
    have hc : cnt (qy r p f) (j + 1) = cnt (qy r p f) j + (if qy r p f j then 1 else 0) := rfl
    by_cases c1 : r.1 24 0 j = 1
    · have h3 := hp j hj64 c1
      refine itp c1 (azb rfl hj64 (rgb h3.1 (rgb h1 ?_)))
      by_cases c2 : r.1 28 0 j = p
      · refine itp c2 (rgb h2 ?_)
        by_cases c3 : f = -1
        · refine itp c3 ?_
          have hq : qy r p f j = true := decide_eq_true ⟨c1, c2, Or.inl c3⟩
          rw [hc, hq] at ih
          exact ih
        · refine itn c3 (azb rfl hj64 (rgb h3.2 ?_))
          by_cases c4 : r.1 25 0 j = f
          · refine itp c4 ?_
            have hq : qy r p f j = true := decide_eq_true ⟨c1, c2, Or.inr c4⟩
            rw [hc, hq] at ih
            exact ih
          · refine itn c4 ?_
            have hq : qy r p f j = false := decide_eq_false (fun q => q.2.2.elim c3 c4)
            rw [hc, hq] at ih
            rw [Int.add_zero]
            exact ih
      · refine itn c2 ?_
        have hq : qy r p f j = false := decide_eq_false (fun q => c2 q.2.1)
        rw [hc, hq] at ih
        rw [Int.add_zero]
        exact ih
    · refine itn c1 ?_
      have hq : qy r p f j = false := decide_eq_false (fun q => c1 q.1)
      rw [hc, hq] at ih
      rw [Int.add_zero]
      exact ih
theorem yqueued {r : MemI} {p f : Int} (hs : ∀ k, k < 64 → ir (r.1 24 0 k)) (hp : ∀ k, k < 64 → r.1 24 0 k = 1 → ir (r.1 28 0 k) ∧ ir (r.1 25 0 k)) (h1 : ir p) (h2 : ir f) : di_Y_queued p f r = some (((cnt (qy r p f) 64 : Nat) : Int), r) :=
  yqueued_l hs hp h1 h2 64 0 FU rfl (by decide)
/-- the class: place i of port p's queue holds a packet of flow f -/
def qx (a : MemI) (p : Nat) (f : Int) (i : Nat) : Bool := decide (a.1 11 (a.1 5 p i).toNat 2 = f)
theorem xqueued_l {a : MemI} {p N : Nat} {f : Int} {K : Int → MemI → Option (Int × MemI)} (hN : a.1 4 p 8 = N) (hN8 : N ≤ 8) (hq : ∀ i : Nat, i < N → 0 ≤ a.1 5 p i ∧ a.1 5 p i < 64 ∧ ir (a.1 11 (a.1 5 p i).toNat 2)) (h2 : ir f) :
    ∀ (m j n : Nat), j + m = N → m < n → di_X_queuedOf_5 K n p f (cnt (qx a p f) j : Nat) (j : Nat) a = K (cnt (qx a p f) N : Nat) a := by
  intro m
  induction m with
  | zero =>
    intro j n hj hn
    obtain ⟨n, rfl⟩ : ∃ q, n = q + 1 := ⟨n - 1, by omega⟩
    have e : j = N := by omega
    subst e
    rw [di_X_queuedOf_5]
    exact rgb (by omega) (rgb (by omega) (itp (by omega) rfl))
  | succ m ih =>
    intro j n hj hn
    obtain ⟨n, rfl⟩ : ∃ q, n = q + 1 := ⟨n - 1, by omega⟩
    have hjN : j < N := by omega
    have ih := ih (j + 1) n (by omega) (by omega)
    have h3 := hq j hjN
    rw [di_X_queuedOf_5]
    refine rgb (by omega) (rgb (by omega) (itn (by omega) (azb rfl (by omega) (azb (j := (a.1 5 p j).toNat) (by omega) (by omega) (rgb h3.2.2 (rgb h2 ?_))))))
    have hc : cnt (qx a p f) (j + 1) = cnt (qx a p f) j + (if qx a p f j then 1 else 0) := rfl
    by_cases c1 : a.1 11 (a.1 5 p j).toNat 2 = f
    · refine itp c1 ?_
      have hq : qx a p f j = true := decide_eq_true c1
      rw [hc, hq] at ih
      exact ih
    · refine itn c1 ?_
      have hq : qx a p f j = false := decide_eq_false c1
      rw [hc, hq] at ih
      exact ih
theorem xqueued {a : MemI} {p N : Nat} {f : Int} (hN : a.1 4 p 8 = N) (hN8 : N ≤ 8) (hq : ∀ i : Nat, i < N → 0 ≤ a.1 5 p i ∧ a.1 5 p i < 64 ∧ ir (a.1 11 (a.1 5 p i).toNat 2)) (h2 : ir f) : di_X_queuedOf p f a = some (((cnt (qx a p f) N : Nat) : Int), a) :=
  xqueued_l hN hN8 hq h2 N 0 FU (by omega) (Nat.lt_of_le_of_lt hN8 (by decide))
/-- the reference: what is on port p -/
theorem yon_l {r : MemI} {p v : Int} {K : Int → MemI → Option (Int × MemI)} (hs : ∀ k, k < 64 → ir (r.1 24 0 k)) (hp : ∀ k, k < 64 → r.1 24 0 k = 2 → ir (r.1 28 0 k)) (h1 : ir p)
    (hv : ∀ k : Nat, k < 64 → r.1 24 0 k = 2 → r.1 28 0 k = p → (k : Int) = v) :
    ∀ (m j n : Nat) (w : Int), j + m = 64 → m < n → (w = v ∨ (w = -1 ∧ ((∃ k : Nat, j ≤ k ∧ k < 64 ∧ r.1 24 0 k = 2 ∧ r.1 28 0 k = p) ∨ v = -1))) → di_Y_on_4 K n p w (j : Nat) r = K v r := by
  intro m
  induction m with
  | zero =>
    intro j n w hj hn hw
    obtain ⟨n, rfl⟩ : ∃ q, n = q + 1 := ⟨n - 1, by omega⟩
    have e : j = 64 := by omega
    subst e
    rw [di_Y_on_4]
    refine rgb (by omega) (itp (by omega) ?_)
    rcases hw with rfl | ⟨rfl, ⟨k, h3, h4, -⟩ | rfl⟩
    · rfl
    · omega
    · rfl
  | succ m ih =>
    intro j n w hj hn hw
    obtain ⟨n, rfl⟩ : ∃ q, n = q + 1 := ⟨n - 1, by omega⟩
    have hj64 : j < 64 := by omega
    have step : ∀ w2 : Int, (w2 = v ∨ (w2 = -1 ∧ ((∃ k : Nat, j + 1 ≤ k ∧ k < 64 ∧ r.1 24 0 k = 2 ∧ r.1 28 0 k = p) ∨ v = -1))) → di_Y_on_4 K n p w2 ((j : Int) + 1) r = K v r := fun w2 h => ih (j + 1) n w2 (by omega) (by omega) h
    have other : ¬ (r.1 24 0 j = 2 ∧ r.1 28 0 j = p) → (w = v ∨ (w = -1 ∧ ((∃ k : Nat, j + 1 ≤ k ∧ k < 64 ∧ r.1 24 0 k = 2 ∧ r.1 28 0 k = p) ∨ v = -1))) := by
      intro hn2
      rcases hw with hw | ⟨hw, ⟨k, h3, h4, h5, h6⟩ | h7⟩
      · exact Or.inl hw
      · refine Or.inr ⟨hw, Or.inl ⟨k, ?_, h4, h5, h6⟩⟩
        by_cases c : k = j
        · subst c
          exact absurd ⟨h5, h6⟩ hn2
        · omega
      · exact Or.inr ⟨hw, Or.inr h7⟩
    rw [di_Y_on_4]
    refine rgb (by omega) (itn (by omega) (azb rfl hj64 (rgb (hs j hj64) ?_)))
    by_cases c1 : r.1 24 0 j = 2
    · refine itp c1 (azb rfl hj64 (rgb (hp j hj64 c1) (rgb h1 ?_)))
      by_cases c2 : r.1 28 0 j = p
      · exact itp c2 (step _ (Or.inl (hv j hj64 c1 c2)))
      · exact itn c2 (step _ (other fun q => c2 q.2))
    · exact itn c1 (step _ (other fun q => c1 q.1))
theorem yon {r : MemI} {p v : Int} (hs : ∀ k, k < 64 → ir (r.1 24 0 k)) (hp : ∀ k, k < 64 → r.1 24 0 k = 2 → ir (r.1 28 0 k)) (h1 : ir p)
    (hv : ∀ k : Nat, k < 64 → r.1 24 0 k = 2 → r.1 28 0 k = p → (k : Int) = v) (he : (∃ k : Nat, k < 64 ∧ r.1 24 0 k = 2 ∧ r.1 28 0 k = p) ∨ v = -1) : di_Y_on p r = some (v, r) :=
  yon_l hs hp h1 hv 64 0 FU (-1) rfl (by decide) (Or.inr ⟨rfl, he.imp (fun ⟨k, h⟩ => ⟨k, Nat.zero_le _, h⟩) id⟩)
