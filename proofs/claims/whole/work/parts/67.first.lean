/-! ===== the first event is the same ===== -/
def pm (r : MemI) (V : Nat → Prop) : Option Nat → Prop
  | none => ∀ t, t < 70 → V t → rk r 64 t = 0
  | some s => s < 70 ∧ V s ∧ rk r 64 s ≠ 0 ∧ ∀ t, t < 70 → V t → t ≠ s → rk r 64 t ≠ 0 → rt r s < rt r t ∨ (rt r s = rt r t ∧ ru r s < ru r t)
def bt (r : MemI) (o : Option Nat) (t : Nat) : Option Nat :=
  match o with
  | none => some t
  | some s => if rt r t < rt r s ∨ (rt r t = rt r s ∧ ru r t < ru r s) then some t else some s
def exv (o : Option Nat) : Int :=
  match o with
  | none => -1
  | some s => s
def evv (r : MemI) (o : Option Nat) : Int :=
  match o with
  | none => 0
  | some s => rt r s * 4294967296 + ru r s
theorem pm_skip {r : MemI} {V V1 : Nat → Prop} {o : Option Nat} {t0 : Nat} (h : pm r V o) (e : ∀ t, V1 t ↔ V t ∨ t = t0) (h0 : rk r 64 t0 = 0) : pm r V1 o := by
  cases o with
  | none =>
    intro t ht hv
    rcases (e t).1 hv with q | rfl
    · exact h t ht q
    · exact h0
  | some s =>
    refine ⟨h.1, (e s).2 (Or.inl h.2.1), h.2.2.1, fun t ht hv ne hk => ?_⟩
    rcases (e t).1 hv with q | rfl
    · exact h.2.2.2 t ht q ne hk
    · exact absurd h0 hk
theorem pm_in {r : MemI} {V V1 : Nat → Prop} {o : Option Nat} {t0 : Nat} (h : pm r V o) (e : ∀ t, V1 t ↔ V t ∨ t = t0) (h70 : t0 < 70) (h0 : rk r 64 t0 ≠ 0) (nV : ¬ V t0) (ne : ∀ s, s < 70 → s ≠ t0 → rk r 64 s ≠ 0 → ru r s ≠ ru r t0) : pm r V1 (bt r o t0) := by
  cases o with
  | none =>
    refine ⟨h70, (e t0).2 (Or.inr rfl), h0, fun t ht hv nt hk => ?_⟩
    rcases (e t).1 hv with q | q
    · exact absurd (h t ht q) hk
    · exact absurd q nt
  | some s =>
    have nes : s ≠ t0 := fun q => nV (by rw [← q]; exact h.2.1)
    have nu := ne s h.1 nes h.2.2.1
    show pm r V1 (if rt r t0 < rt r s ∨ (rt r t0 = rt r s ∧ ru r t0 < ru r s) then some t0 else some s)
    by_cases c : rt r t0 < rt r s ∨ (rt r t0 = rt r s ∧ ru r t0 < ru r s)
    · rw [if_pos c]
      refine ⟨h70, (e t0).2 (Or.inr rfl), h0, fun t ht hv nt hk => ?_⟩
      rcases (e t).1 hv with q | q
      · by_cases d : t = s
        · rw [d]
          exact c
        · have y := h.2.2.2 t ht q d hk
          omega
      · exact absurd q nt
    · rw [if_neg c]
      refine ⟨h.1, (e s).2 (Or.inl h.2.1), h.2.2.1, fun t ht hv nt hk => ?_⟩
      rcases (e t).1 hv with q | rfl
      · exact h.2.2.2 t ht q nt hk
      · omega
section FIRST
variable {B : Int} {a r : MemI}
theorem ru_ne (H : Rel B 64 a r) {s t : Nat} (hs : s < 70) (ht : t < 70) (ne : s ≠ t) (ks : rk r 64 s ≠ 0) (kt : rk r 64 t ≠ 0) : ru r s ≠ ru r t := by
  have y := H.A.2.2 s t hs ht ne ks kt
  omega
theorem ev_f (H : Rel B 64 a r) {f : Nat} (hf : (f : Int) < r.1 0 0 9) : (r.1 19 0 f = -1 ∧ r.1 21 0 f = -1 ∧ rk r 64 f = 0) ∨ (r.1 19 0 f = -1 ∧ r.1 21 0 f ≠ -1 ∧ rk r 64 f = 4 ∧ rt r f = r.1 21 0 f ∧ ru r f = r.1 22 0 f ∧ 0 ≤ r.1 21 0 f ∧ r.1 21 0 f ≤ B ∧ 1 ≤ r.1 22 0 f ∧ r.1 22 0 f ≤ B) ∨
    (r.1 19 0 f ≠ -1 ∧ r.1 21 0 f = -1 ∧ rk r 64 f = 1 ∧ rt r f = r.1 19 0 f ∧ ru r f = r.1 20 0 f ∧ 0 ≤ r.1 19 0 f ∧ r.1 19 0 f ≤ B ∧ 1 ≤ r.1 20 0 f ∧ r.1 20 0 f ≤ B) := by
  have hG := H.G
  unfold rG at hG
  have hf6 : f < 6 := by omega
  have k := rk_f (r := r) (h := 64) hf6 hf
  have A := H.A.2.1 f (by omega)
  rw [rt_f hf6, ru_f hf6] at *
  by_cases c : r.1 19 0 f = -1
  · rw [if_pos c] at k A
    rw [if_pos c, if_pos c]
    rw [if_pos c] at A
    by_cases d : r.1 21 0 f = -1
    · rw [if_pos d] at k
      exact Or.inl ⟨c, d, k⟩
    · rw [if_neg d] at k
      have A := A (by omega)
      exact Or.inr (Or.inl ⟨c, d, k, rfl, rfl, by omega⟩)
  · rw [if_neg c] at k A
    rw [if_neg c, if_neg c]
    rw [if_neg c] at A
    have A := A (by omega)
    exact Or.inr (Or.inr ⟨c, (H.N.1 f hf c).1, k, rfl, rfl, by omega⟩)
theorem ev_k (H : Rel B 64 a r) {k : Nat} (hk : k < 64) : (0 ≤ r.1 24 0 k ∧ r.1 24 0 k < 2 ∧ rk r 64 (6 + k) = 0) ∨ (2 ≤ r.1 24 0 k ∧ r.1 24 0 k ≤ 3 ∧ rk r 64 (6 + k) = r.1 24 0 k ∧ rt r (6 + k) = r.1 29 0 k ∧ ru r (6 + k) = r.1 30 0 k ∧ 0 ≤ r.1 29 0 k ∧ r.1 29 0 k ≤ B ∧ 1 ≤ r.1 30 0 k ∧ r.1 30 0 k ≤ B) := by
  have hG := H.G
  unfold rG at hG
  have st := rP_st H.P hk
  have kk := rk_k (r := r) (h := 64) (k := k)
  rw [if_neg (by omega)] at kk
  have A := H.A.2.1 (6 + k) (by omega)
  rw [rt_k, ru_k] at *
  by_cases c : r.1 24 0 k = 2
  · rw [if_pos c] at kk
    have A := A (by omega)
    exact Or.inr ⟨by omega, by omega, by omega, rfl, rfl, by omega⟩
  · rw [if_neg c] at kk
    by_cases d : r.1 24 0 k = 3
    · rw [if_pos d] at kk
      have A := A (by omega)
      exact Or.inr ⟨by omega, by omega, by omega, rfl, rfl, by omega⟩
    · rw [if_neg d] at kk
      exact Or.inl ⟨by omega, by omega, kk⟩
theorem xbefore (H : Rel B 64 a r) (hB : B < 1000000000) {s t : Nat} (hs : s < 70) (ht : t < 70) (ne : s ≠ t) (ks : rk r 64 s ≠ 0) (kt : rk r 64 t ≠ 0) : di_A_isBefore s t a = some ((if rt r s < rt r t ∨ (rt r s = rt r t ∧ ru r s < ru r t) then 1 else 0), a) := by
  have hG := H.G
  unfold rG at hG
  have A1 := H.A.2.1 s hs ks
  have A2 := H.A.2.1 t ht kt
  have A3 := H.A.2.2 s t hs ht ne ks kt
  generalize hv : (if rt r s < rt r t ∨ (rt r s = rt r t ∧ ru r s < ru r t) then (1 : Int) else 0) = v
  refine azb rfl hs (azb rfl ht (rgb (by omega) (rgb (by omega) ?_)))
  by_cases c : a.1 14 0 s < a.1 14 0 t
  · rw [if_pos (by omega)] at hv
    subst hv
    exact itp c (bz1b rfl)
  · refine itn c (azb rfl hs (azb rfl ht (rgb (by omega) (rgb (by omega) ?_))))
    by_cases d : a.1 14 0 s = a.1 14 0 t
    · refine itp d (azb rfl hs (azb rfl ht (rgb (by omega) (rgb (by omega) ?_))))
      by_cases e : a.1 15 0 t ≤ a.1 15 0 s
      · rw [if_neg (by omega)] at hv
        subst hv
        exact itp e (bz0b rfl)
      · rw [if_pos (by omega)] at hv
        subst hv
        exact itn e (bz1b rfl)
    · rw [if_neg (by omega)] at hv
      subst hv
      exact itn d (bz0b rfl)
theorem xfirst_l (H : Rel B 64 a r) (hB : B < 1000000000) {K : Int → MemI → Option (Int × MemI)} : ∀ (m j n : Nat) (o : Option Nat), j + m = 70 → m < n → pm r (fun t => t < j) o → ∃ o1, pm r (fun t => t < 70) o1 ∧ di_A_firstSlot_4 K n (exv o) j a = K (exv o1) a := by
  intro m
  induction m with
  | zero =>
    intro j n o hj hn h
    obtain ⟨n, rfl⟩ : ∃ q, n = q + 1 := ⟨n - 1, by omega⟩
    have e : j = 70 := by omega
    subst e
    refine ⟨o, h, ?_⟩
    rw [di_A_firstSlot_4]
    exact rgb (by omega) (itp (by omega) rfl)
  | succ m ih =>
    intro j n o hj hn h
    obtain ⟨n, rfl⟩ : ∃ q, n = q + 1 := ⟨n - 1, by omega⟩
    have hj70 : j < 70 := by omega
    have k13 := H.A.1 j hj70
    have rng : ir (rk r 64 j) := by
      unfold ir rk
      repeat' split
      all_goals omega
    unfold ir at rng
    have e : ∀ t, t < j + 1 ↔ t < j ∨ t = j := fun t => by omega
    by_cases c : rk r 64 j = 0
    · obtain ⟨o1, g1, g2⟩ := ih (j + 1) n o (by omega) (by omega) (pm_skip h e c)
      refine ⟨o1, g1, ?_⟩
      rw [di_A_firstSlot_4]
      exact rgb (by omega) (itn (by omega) (azb rfl hj70 (rgb (by omega) (itp (by omega) g2))))
    · obtain ⟨o1, g1, g2⟩ := ih (j + 1) n (bt r o j) (by omega) (by omega) (pm_in h e hj70 c (by omega) (fun s hs ne ks => ru_ne H hs hj70 ne ks c))
      refine ⟨o1, g1, ?_⟩
      rw [di_A_firstSlot_4]
      refine rgb (by omega) (itn (by omega) (azb rfl hj70 (rgb (by omega) (itn (by omega) ?_))))
      cases o with
      | none => exact rgb (by show -2147483648 ≤ (-1 : Int) ∧ (-1 : Int) < 2147483648; omega) (itp rfl g2)
      | some s =>
        have hs := h.1
        have nes : s ≠ j := by have := h.2.1; omega
        have es : exv (some s) = (s : Int) := rfl
        rw [es]
        refine rgb (by omega) (itn (by omega) (cab (xbefore H hB hj70 hs (fun q => nes q.symm) c h.2.2.1) ?_))
        dsimp only
        have eb : bt r (some s) j = if rt r j < rt r s ∨ (rt r j = rt r s ∧ ru r j < ru r s) then some j else some s := rfl
        rw [eb] at g2
        by_cases d : rt r j < rt r s ∨ (rt r j = rt r s ∧ ru r j < ru r s)
        · rw [if_pos d] at g2
          rw [if_pos d]
          exact rgb (by omega) (itn (by omega) g2)
        · rw [if_neg d] at g2
          rw [if_neg d]
          exact rgb (by omega) (itp rfl g2)
theorem pm_all {o : Option Nat} {V : Nat → Prop} (h : pm r V o) (hV : ∀ t, t < 70 → rk r 64 t ≠ 0 → V t) : (∃ s, isFirst r 64 s ∧ o = some s) ∨ ((∀ t, t < 70 → rk r 64 t = 0) ∧ o = none) := by
  cases o with
  | none => exact Or.inr ⟨fun t ht => Classical.byContradiction fun q => q (h t ht (hV t ht q)), rfl⟩
  | some s => exact Or.inl ⟨s, ⟨h.1, h.2.2.1, fun t ht ne hk => h.2.2.2 t ht (hV t ht hk) ne hk⟩, rfl⟩
theorem xfirst (H : Rel B 64 a r) (hB : B < 1000000000) : (∃ s, isFirst r 64 s ∧ di_A_firstSlot a = some ((s : Int), a)) ∨ ((∀ t, t < 70 → rk r 64 t = 0) ∧ di_A_firstSlot a = some (-1, a)) := by
  obtain ⟨o1, g1, g2⟩ := xfirst_l (K := fun x1 z3 => some (x1, z3)) H hB 70 0 FU none rfl (by decide) (fun t _ q => absurd q (by omega))
  rcases pm_all g1 (fun t ht _ => ht) with ⟨s, q1, rfl⟩ | ⟨q1, rfl⟩
  · exact Or.inl ⟨s, q1, g2⟩
  · exact Or.inr ⟨q1, g2⟩
/-! ===== the reference ===== -/
theorem ysoon0 {t u : Int} (ht : 0 ≤ t ∧ t < 1000000000) (hu : 1 ≤ u ∧ u < 1000000000) : di_Y_sooner 0 t u = some (t * 4294967296 + u) := by
  refine rgb (by omega) (rgb (by omega) (stWb (rlb (by omega) (rgb (by unfold cmpZ; omega) (itp ?_ rfl)))))
  unfold cmpZ
  rw [if_neg (by omega), if_pos rfl]
theorem ysoon1 {t u t1 u1 : Int} (ht : 0 ≤ t ∧ t < 1000000000) (hu : 1 ≤ u ∧ u < 1000000000) (ht1 : 0 ≤ t1 ∧ t1 < 1000000000) (hu1 : 1 ≤ u1 ∧ u1 < 1000000000) : di_Y_sooner (t1 * 4294967296 + u1) t u = some (if t < t1 ∨ (t = t1 ∧ u < u1) then t * 4294967296 + u else t1 * 4294967296 + u1) := by
  have e1 : cmpZ (t1 * 4294967296 + u1) 0 = 1 := by
    unfold cmpZ
    rw [if_pos (by omega)]
  refine rgb (by omega) (rgb (by omega) (stWb (rlb (by omega) ?_)))
  rw [e1]
  refine rgb (by omega) (itn (by omega) (rlb (by omega) ?_))
  by_cases c : t < t1 ∨ (t = t1 ∧ u < u1)
  · have e2 : cmpZ (t * 4294967296 + u) (t1 * 4294967296 + u1) = -1 := by
      unfold cmpZ
      rw [if_neg (by omega), if_neg (by omega)]
    rw [e2, if_pos c]
    exact rgb (by omega) (itn (by omega) rfl)
  · rw [if_neg c]
    have e2 : 0 ≤ cmpZ (t * 4294967296 + u) (t1 * 4294967296 + u1) ∧ cmpZ (t * 4294967296 + u) (t1 * 4294967296 + u1) ≤ 1 := by
      unfold cmpZ
      by_cases d : t * 4294967296 + u > t1 * 4294967296 + u1
      · rw [if_pos d]; omega
      · rw [if_neg d, if_pos (by omega)]; omega
    exact rgb (by omega) (itp e2.1 rfl)
theorem ysoon_o (H : Rel B 64 a r) (hB : B < 1000000000) {V : Nat → Prop} {o : Option Nat} (h : pm r V o) {j : Nat} (hj : j < 70) (kj : rk r 64 j ≠ 0) : di_Y_sooner (evv r o) (rt r j) (ru r j) = some (evv r (bt r o j)) := by
  have hG := H.G
  unfold rG at hG
  have A1 := H.A.2.1 j hj kj
  cases o with
  | none => exact ysoon0 (by omega) (by omega)
  | some s =>
    have A2 := H.A.2.1 s h.1 h.2.2.1
    refine (ysoon1 (by omega) (by omega) (by omega) (by omega)).trans ?_
    show _ = some (evv r (if rt r j < rt r s ∨ (rt r j = rt r s ∧ ru r j < ru r s) then some j else some s))
    by_cases d : rt r j < rt r s ∨ (rt r j = rt r s ∧ ru r j < ru r s)
    · rw [if_pos d, if_pos d]
      rfl
    · rw [if_neg d, if_neg d]
      rfl
theorem ysoon_k (H : Rel B 64 a r) (hB : B < 1000000000) {K : Int → MemI → Option (Int × MemI)} : ∀ (m j n : Nat) (o : Option Nat), j + m = 64 → m < n → pm r (fun t => 6 ≤ t ∧ t < 6 + j) o → ∃ o1, pm r (fun t => 6 ≤ t ∧ t < 6 + 64) o1 ∧ di_Y_soonest_4 K n (evv r o) j r = K (evv r o1) r := by
  intro m
  induction m with
  | zero =>
    intro j n o hj hn h
    obtain ⟨n, rfl⟩ : ∃ q, n = q + 1 := ⟨n - 1, by omega⟩
    have e : j = 64 := by omega
    subst e
    refine ⟨o, h, ?_⟩
    rw [di_Y_soonest_4]
    exact rgb (by omega) (itp (by omega) rfl)
  | succ m ih =>
    intro j n o hj hn h
    obtain ⟨n, rfl⟩ : ∃ q, n = q + 1 := ⟨n - 1, by omega⟩
    have hj64 : j < 64 := by omega
    have e : ∀ t, (6 ≤ t ∧ t < 6 + (j + 1)) ↔ (6 ≤ t ∧ t < 6 + j) ∨ t = 6 + j := fun t => by omega
    rcases ev_k H hj64 with x | x
    · obtain ⟨o1, g1, g2⟩ := ih (j + 1) n o (by omega) (by omega) (pm_skip h e x.2.2)
      refine ⟨o1, g1, ?_⟩
      rw [di_Y_soonest_4]
      exact rgb (by omega) (itn (by omega) (azb rfl hj64 (rgb (by omega) (itp (by omega) g2))))
    · have kj : rk r 64 (6 + j) ≠ 0 := by omega
      obtain ⟨o1, g1, g2⟩ := ih (j + 1) n (bt r o (6 + j)) (by omega) (by omega) (pm_in h e (by omega) kj (by omega) (fun s hs ne ks => ru_ne H hs (by omega) ne ks kj))
      refine ⟨o1, g1, ?_⟩
      rw [di_Y_soonest_4]
      have so := ysoon_o H hB h (j := 6 + j) (by omega) kj
      rw [x.2.2.2.1, x.2.2.2.2.1] at so
      exact rgb (by omega) (itn (by omega) (azb rfl hj64 (rgb (by omega) (itn (by omega) (azb rfl hj64 (azb rfl hj64 (cab so g2)))))))
theorem ysoon_f (H : Rel B 64 a r) (hB : B < 1000000000) {K : Int → MemI → Option (Int × MemI)} : ∀ (m j n : Nat) (o : Option Nat), (j : Int) + m = r.1 0 0 9 → m < n → pm r (fun t => 6 ≤ t ∨ t < j) o → ∃ o1, pm r (fun t => 6 ≤ t ∨ (t : Int) < r.1 0 0 9) o1 ∧ di_Y_soonest_45 K n (evv r o) j r = K (evv r o1) r := by
  have hG := H.G
  unfold rG at hG
  intro m
  induction m with
  | zero =>
    intro j n o hj hn h
    obtain ⟨n, rfl⟩ : ∃ q, n = q + 1 := ⟨n - 1, by omega⟩
    have e : (fun t : Nat => 6 ≤ t ∨ t < j) = fun t : Nat => 6 ≤ t ∨ (t : Int) < r.1 0 0 9 := by
      funext t
      apply propext
      omega
    refine ⟨o, by rw [← e]; exact h, ?_⟩
    rw [di_Y_soonest_45]
    exact rgb (by omega) (rgb (by omega) (itp (by omega) rfl))
  | succ m ih =>
    intro j n o hj hn h
    obtain ⟨n, rfl⟩ : ∃ q, n = q + 1 := ⟨n - 1, by omega⟩
    have hj6 : j < 6 := by omega
    have hjf : (j : Int) < r.1 0 0 9 := by omega
    have e : ∀ t, (6 ≤ t ∨ t < j + 1) ↔ (6 ≤ t ∨ t < j) ∨ t = j := fun t => by omega
    rcases ev_f H hjf with x | x | x
    · obtain ⟨o1, g1, g2⟩ := ih (j + 1) n o (by omega) (by omega) (pm_skip h e x.2.2)
      refine ⟨o1, g1, ?_⟩
      rw [di_Y_soonest_45]
      exact rgb (by omega) (rgb (by omega) (itn (by omega) (azb rfl hj6 (rgb (by omega) (itp x.1 (azb rfl hj6 (rgb (by omega) (itp x.2.1 g2))))))))
    · have kj : rk r 64 j ≠ 0 := by omega
      obtain ⟨o1, g1, g2⟩ := ih (j + 1) n (bt r o j) (by omega) (by omega) (pm_in h e (by omega) kj (by omega) (fun s hs ne ks => ru_ne H hs (by omega) ne ks kj))
      refine ⟨o1, g1, ?_⟩
      rw [di_Y_soonest_45]
      have so := ysoon_o H hB h (j := j) (by omega) kj
      rw [x.2.2.2.1, x.2.2.2.2.1] at so
      exact rgb (by omega) (rgb (by omega) (itn (by omega) (azb rfl hj6 (rgb (by omega) (itp x.1 (azb rfl hj6 (rgb (by omega) (itn x.2.1 (azb rfl hj6 (azb rfl hj6 (cab so g2)))))))))))
    · have kj : rk r 64 j ≠ 0 := by omega
      obtain ⟨o1, g1, g2⟩ := ih (j + 1) n (bt r o j) (by omega) (by omega) (pm_in h e (by omega) kj (by omega) (fun s hs ne ks => ru_ne H hs (by omega) ne ks kj))
      refine ⟨o1, g1, ?_⟩
      rw [di_Y_soonest_45]
      have so := ysoon_o H hB h (j := j) (by omega) kj
      rw [x.2.2.2.1, x.2.2.2.2.1] at so
      exact rgb (by omega) (rgb (by omega) (itn (by omega) (azb rfl hj6 (rgb (by omega) (itn x.1 (azb rfl hj6 (azb rfl hj6 (cab so (azb rfl hj6 (rgb (by omega) (itp x.2.1 g2)))))))))))
theorem ysoon (H : Rel B 64 a r) (hB : B < 1000000000) : (∃ s, isFirst r 64 s ∧ di_Y_soonest r = some (rt r s * 4294967296 + ru r s, r)) ∨ ((∀ t, t < 70 → rk r 64 t = 0) ∧ di_Y_soonest r = some (0, r)) := by
  have hG := H.G
  unfold rG at hG
  obtain ⟨o1, g1, g2⟩ := ysoon_k (K := fun x1 z5 => di_Y_soonest_45 (fun x1 z18 => some (x1, z18)) FU x1 (0 : Int) z5) H hB 64 0 FU none rfl (by decide) (fun t _ q => absurd q (by omega))
  have e : (fun t : Nat => 6 ≤ t ∨ t < 0) = fun t : Nat => 6 ≤ t := by
    funext t
    apply propext
    omega
  have g1b : pm r (fun t => 6 ≤ t ∨ t < 0) o1 := by
    cases o1 with
    | none => exact fun t ht hv => g1 t ht (by omega)
    | some s => exact ⟨g1.1, by have := g1.2.1; omega, g1.2.2.1, fun t ht hv => g1.2.2.2 t ht (by omega)⟩
  obtain ⟨o2, g3, g4⟩ := ysoon_f (K := fun x1 z18 => some (x1, z18)) H hB (r.1 0 0 9).toNat 0 FU o1 (by omega) (by have : FU = 200 := rfl; omega) g1b
  have g5 : di_Y_soonest r = some (evv r o2, r) := g2.trans g4
  have hV : ∀ t, t < 70 → rk r 64 t ≠ 0 → 6 ≤ t ∨ (t : Int) < r.1 0 0 9 := fun t ht hk => by
    by_cases c : t < 6
    · by_cases d : (t : Int) < r.1 0 0 9
      · exact Or.inr d
      · exact absurd (rk_f0 c d) hk
    · exact Or.inl (by omega)
  rcases pm_all g3 hV with ⟨s, q1, rfl⟩ | ⟨q1, rfl⟩
  · exact Or.inl ⟨s, q1, g5⟩
  · exact Or.inr ⟨q1, g5⟩
/-! ===== the reference's search by its turn ===== -/
theorem yf37 (H : Rel B 64 a r) (hB : B < 1000000000) {s : Nat} (hs : isFirst r 64 s) {K1 K2 K3 : Int → MemI → Option (Int × MemI)} : ∀ (m j n : Nat), (j : Int) + m = r.1 0 0 9 → m < n → j ≤ s → di_Y_step_37 K1 K2 K3 n (ru r s) j r = if s < 6 then (if r.1 19 0 s = -1 then K2 s r else K1 s r) else K3 (ru r s) r := by
  have hG := H.G
  unfold rG at hG
  have As := H.A.2.1 s hs.1 hs.2.1
  intro m
  induction m with
  | zero =>
    intro j n hj hn hjs
    obtain ⟨n, rfl⟩ : ∃ q, n = q + 1 := ⟨n - 1, by omega⟩
    have s6 : ¬ s < 6 := fun q => hs.2.1 (rk_f0 q (by omega))
    rw [if_neg s6, di_Y_step_37]
    exact rgb (by omega) (rgb (by omega) (itp (by omega) rfl))
  | succ m ih =>
    intro j n hj hn hjs
    obtain ⟨n, rfl⟩ : ∃ q, n = q + 1 := ⟨n - 1, by omega⟩
    have hj6 : j < 6 := by omega
    have hjf : (j : Int) < r.1 0 0 9 := by omega
    rw [di_Y_step_37]
    by_cases e : s = j
    · subst e
      rw [if_pos hj6]
      rcases ev_f H hjf with x | x | x
      · exact absurd x.2.2 hs.2.1
      · rw [if_pos x.1]
        refine rgb (by omega) (rgb (by omega) (itn (by omega) (azb rfl hj6 (rgb (by omega) (itp x.1 (azb rfl hj6 (rgb (by omega) (itn x.2.1 (azb rfl hj6 (rgb (by omega) (rgb (by omega) (itp (by omega) rfl)))))))))))) 
      · rw [if_neg x.1]
        exact rgb (by omega) (rgb (by omega) (itn (by omega) (azb rfl hj6 (rgb (by omega) (itn x.1 (azb rfl hj6 (rgb (by omega) (rgb (by omega) (itp (by omega) rfl)))))))))
    · have go := ih (j + 1) n (by omega) (by omega) (by omega)
      rcases ev_f H hjf with x | x | x
      · exact rgb (by omega) (rgb (by omega) (itn (by omega) (azb rfl hj6 (rgb (by omega) (itp x.1 (azb rfl hj6 (rgb (by omega) (itp x.2.1 go))))))))
      · have ne := ru_ne H (show j < 70 by omega) hs.1 (fun q => e q.symm) (by omega) hs.2.1
        exact rgb (by omega) (rgb (by omega) (itn (by omega) (azb rfl hj6 (rgb (by omega) (itp x.1 (azb rfl hj6 (rgb (by omega) (itn x.2.1 (azb rfl hj6 (rgb (by omega) (rgb (by omega) (itn (by omega) go))))))))))))
      · have ne := ru_ne H (show j < 70 by omega) hs.1 (fun q => e q.symm) (by omega) hs.2.1
        exact rgb (by omega) (rgb (by omega) (itn (by omega) (azb rfl hj6 (rgb (by omega) (itn x.1 (azb rfl hj6 (rgb (by omega) (rgb (by omega) (itn (by omega) (azb rfl hj6 (rgb (by omega) (itp x.2.1 go))))))))))))
theorem yf188 (H : Rel B 64 a r) (hB : B < 1000000000) {k : Nat} (hs : isFirst r 64 (6 + k)) {K1 : Int → MemI → Option (Int × MemI)} {K2 : MemI → Option (Int × MemI)} : ∀ (m j n : Nat), j + m = 64 → m < n → j ≤ k → di_Y_step_188 K1 K2 n (ru r (6 + k)) j r = K1 k r := by
  have hG := H.G
  unfold rG at hG
  have As := H.A.2.1 (6 + k) hs.1 hs.2.1
  have hk70 := hs.1
  intro m
  induction m with
  | zero =>
    intro j n hj hn hjs
    omega
  | succ m ih =>
    intro j n hj hn hjs
    obtain ⟨n, rfl⟩ : ∃ q, n = q + 1 := ⟨n - 1, by omega⟩
    have hj64 : j < 64 := by omega
    rw [di_Y_step_188]
    by_cases e : k = j
    · subst e
      rcases ev_k H hj64 with x | x
      · exact absurd x.2.2 hs.2.1
      · exact rgb (by omega) (itn (by omega) (azb rfl hj64 (rgb (by omega) (itn (by omega) (azb rfl hj64 (rgb (by omega) (rgb (by omega) (itp (by omega) rfl))))))))
    · have go := ih (j + 1) n (by omega) (by omega) (by omega)
      rcases ev_k H hj64 with x | x
      · exact rgb (by omega) (itn (by omega) (azb rfl hj64 (rgb (by omega) (itp (by omega) go))))
      · have ne := ru_ne H (show 6 + j < 70 by omega) hs.1 (by omega) (by omega) hs.2.1
        exact rgb (by omega) (itn (by omega) (azb rfl hj64 (rgb (by omega) (itn (by omega) (azb rfl hj64 (rgb (by omega) (rgb (by omega) (itn (by omega) go))))))))
end FIRST
