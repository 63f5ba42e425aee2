/-! ===== distances: a matrix that is closed, and the greatest such ===== -/
def ls (a b : Int) : Int := if a < b then a else b
theorem ls_l (a b : Int) : ls a b ≤ a := by unfold ls; split <;> omega
theorem ls_r (a b : Int) : ls a b ≤ b := by unfold ls; split <;> omega
theorem ls_c (a b : Int) : (a < b ∧ ls a b = a) ∨ (b ≤ a ∧ ls a b = b) := by unfold ls; split <;> omega
abbrev Mx : Type := Nat → Nat → Int
/-- zeros, ranges -/
def mZ (M : Mx) : Prop := (∀ v, v < 8 → M v v = 0) ∧ ∀ v t, v < 8 → t < 8 → 0 ≤ M v t ∧ M v t ≤ 1000000
def mT (M : Mx) : Prop := ∀ v u t, v < 8 → u < 8 → t < 8 → M v t ≤ M v u + M u t
def mK (n : Nat) (fi se co : Nat → Int) (M : Mx) : Prop := ∀ k, k < n → M (fi k).toNat (se k).toNat ≤ co k ∧ M (se k).toNat (fi k).toNat ≤ co k
def mCl (n : Nat) (fi se co : Nat → Int) (M : Mx) : Prop := mZ M ∧ mT M ∧ mK n fi se co M
def mGr (n : Nat) (fi se co : Nat → Int) (M : Mx) : Prop := ∀ X : Mx, mCl n fi se co X → ∀ v t, v < 8 → t < 8 → X v t ≤ M v t
def mBd (b : Int) (M : Mx) : Prop := ∀ v t, v < 8 → t < 8 → M v t = 1000000 ∨ M v t ≤ b
theorem mx_uni {n : Nat} {fi se co : Nat → Int} {M N : Mx} (h1 : mCl n fi se co M) (h2 : mGr n fi se co M) (h3 : mCl n fi se co N) (h4 : mGr n fi se co N) {v t : Nat} (hv : v < 8) (ht : t < 8) : M v t = N v t := by
  have a := h4 M h1 v t hv ht
  have b := h2 N h3 v t hv ht
  omega
/-- one phase of the reference's reckoning -/
def fwm (M : Mx) (k : Nat) : Mx := fun v t => ls (M v t) (M v k + M k t)
theorem fwm_col {M : Mx} {k v : Nat} (hk : M k k = 0) : fwm M k v k = M v k := by
  unfold fwm ls; rw [hk]; split <;> omega
theorem fwm_row {M : Mx} {k t : Nat} (hk : M k k = 0) : fwm M k k t = M k t := by
  unfold fwm ls; rw [hk]; split <;> omega
theorem fwm_Z {M : Mx} {k : Nat} (hk : k < 8) (h : mZ M) : mZ (fwm M k) := by
  refine ⟨fun v hv => ?_, fun v t hv ht => ?_⟩
  · have h0 := h.1 v hv
    have h1 := h.2 v k hv hk
    have h2 := h.2 k v hk hv
    have h3 := ls_c (M v v) (M v k + M k v)
    show ls (M v v) (M v k + M k v) = 0
    omega
  · have h0 := h.2 v t hv ht
    have h1 := h.2 v k hv hk
    have h2 := h.2 k t hk ht
    have h3 := ls_c (M v t) (M v k + M k t)
    show 0 ≤ ls (M v t) (M v k + M k t) ∧ ls (M v t) (M v k + M k t) ≤ 1000000
    omega
/-- the triangle over the nodes below k -/
def mU (k : Nat) (M : Mx) : Prop := ∀ u, u < k → ∀ v t, v < 8 → t < 8 → M v t ≤ M v u + M u t
theorem fwm_U {M : Mx} {k : Nat} (hk : k < 8) (h : mZ M) (hU : mU k M) : mU (k + 1) (fwm M k) := by
  intro u hu v t hv ht
  have e0 := h.1 k hk
  by_cases c : u = k
  · subst c
    rw [fwm_col e0, fwm_row e0]
    exact ls_r _ _
  · have hu1 : u < k := by omega
    have hu8 : u < 8 := by omega
    have a1 := hU u hu1 v t hv ht
    have a2 := hU u hu1 k t hk ht
    have a3 := hU u hu1 v k hv hk
    have a4 := hU u hu1 k k hk hk
    have b1 := h.2 k u hk hu8
    have b2 := h.2 u k hu8 hk
    have l1 := ls_l (M v t) (M v k + M k t)
    have l2 := ls_r (M v t) (M v k + M k t)
    have c1 := ls_c (M v u) (M v k + M k u)
    have c2 := ls_c (M u t) (M u k + M k t)
    show ls (M v t) (M v k + M k t) ≤ ls (M v u) (M v k + M k u) + ls (M u t) (M u k + M k t)
    omega
theorem fwm_K {n : Nat} {fi se co : Nat → Int} {M : Mx} {k : Nat} (h : mK n fi se co M) : mK n fi se co (fwm M k) := by
  intro j hj
  have h1 := h j hj
  have l1 := ls_l (M (fi j).toNat (se j).toNat) (M (fi j).toNat k + M k (se j).toNat)
  have l2 := ls_l (M (se j).toNat (fi j).toNat) (M (se j).toNat k + M k (fi j).toNat)
  refine ⟨?_, ?_⟩
  · show ls _ _ ≤ _
    omega
  · show ls _ _ ≤ _
    omega
theorem fwm_G {n : Nat} {fi se co : Nat → Int} {M : Mx} {k : Nat} (hk : k < 8) (h : mGr n fi se co M) : mGr n fi se co (fwm M k) := by
  intro X hX v t hv ht
  have a1 := h X hX v t hv ht
  have a2 := h X hX v k hv hk
  have a3 := h X hX k t hk ht
  have a4 := hX.2.1 v k t hv hk ht
  have c := ls_c (M v t) (M v k + M k t)
  show X v t ≤ ls _ _
  omega
theorem fwm_B {M : Mx} {k : Nat} {b : Int} (hb : 0 ≤ b) (hk : k < 8) (hz : mZ M) (h : mBd b M) : mBd (2 * b) (fwm M k) := by
  intro v t hv ht
  have a1 := h v t hv ht
  have a2 := h v k hv hk
  have a3 := h k t hk ht
  have z1 := hz.2 v t hv ht
  have z2 := hz.2 v k hv hk
  have z3 := hz.2 k t hk ht
  have c := ls_c (M v t) (M v k + M k t)
  show ls _ _ = 1000000 ∨ ls _ _ ≤ 2 * b
  omega
theorem mU_T {M : Mx} (h : mU 8 M) : mT M := fun v u t hv hu ht => h u hu v t hv ht
/-- one pass of the class over a new link, from a to b -/
def sh (M : Mx) (a b : Nat) (c : Int) : Mx := fun v t => ls (M v a + c + M b t) (M v t)
theorem sh_col {M : Mx} {a b v : Nat} {c : Int} (hc : 1 ≤ c) (hb : 0 ≤ M b a) : sh M a b c v a = M v a := by
  have h := ls_c (M v a + c + M b a) (M v a)
  show ls _ _ = _
  omega
theorem sh_row {M : Mx} {a b t : Nat} {c : Int} (hc : 1 ≤ c) (hb : 0 ≤ M b a) : sh M a b c b t = M b t := by
  have h := ls_c (M b a + c + M b t) (M b t)
  show ls _ _ = _
  omega
theorem sh_Z {M : Mx} {a b : Nat} {c : Int} (ha : a < 8) (hb : b < 8) (hc : 1 ≤ c) (h : mZ M) : mZ (sh M a b c) := by
  refine ⟨fun v hv => ?_, fun v t hv ht => ?_⟩
  · have h0 := h.1 v hv
    have h1 := h.2 v a hv ha
    have h2 := h.2 b v hb hv
    have h3 := ls_c (M v a + c + M b v) (M v v)
    show ls _ _ = 0
    omega
  · have h0 := h.2 v t hv ht
    have h1 := h.2 v a hv ha
    have h2 := h.2 b t hb ht
    have h3 := ls_c (M v a + c + M b t) (M v t)
    show 0 ≤ ls _ _ ∧ ls _ _ ≤ 1000000
    omega
theorem sh_T {M : Mx} {a b : Nat} {c : Int} (ha : a < 8) (hb : b < 8) (hc : 1 ≤ c) (hz : mZ M) (h : mT M) : mT (sh M a b c) := by
  intro v u t hv hu ht
  have a1 := h v u t hv hu ht
  have a2 := h b u t hb hu ht
  have a3 := h v u a hv hu ha
  have z1 := hz.2 b u hb hu
  have z2 := hz.2 u a hu ha
  have z3 := hz.2 v a hv ha
  have z4 := hz.2 b t hb ht
  have l1 := ls_l (M v a + c + M b t) (M v t)
  have l2 := ls_r (M v a + c + M b t) (M v t)
  have c1 := ls_c (M v a + c + M b u) (M v u)
  have c2 := ls_c (M u a + c + M b t) (M u t)
  show ls (M v a + c + M b t) (M v t) ≤ ls (M v a + c + M b u) (M v u) + ls (M u a + c + M b t) (M u t)
  omega
theorem sh_le (M : Mx) (a b : Nat) (c : Int) (v t : Nat) : sh M a b c v t ≤ M v t := ls_r _ _
theorem sh_new {M : Mx} {a b : Nat} {c : Int} (ha : a < 8) (hb : b < 8) (h : mZ M) : sh M a b c a b ≤ c := by
  have h1 := h.1 a ha
  have h2 := h.1 b hb
  have l1 := ls_l (M a a + c + M b b) (M a b)
  show ls _ _ ≤ c
  omega
theorem sh_G {X M : Mx} {a b : Nat} {c : Int} (ha : a < 8) (hb : b < 8) (hT : mT X) (hab : X a b ≤ c) (h : ∀ v t, v < 8 → t < 8 → X v t ≤ M v t) : ∀ v t, v < 8 → t < 8 → X v t ≤ sh M a b c v t := by
  intro v t hv ht
  have a1 := h v t hv ht
  have a2 := h v a hv ha
  have a3 := h b t hb ht
  have a4 := hT v a t hv ha ht
  have a5 := hT a b t ha hb ht
  have k := ls_c (M v a + c + M b t) (M v t)
  show X v t ≤ ls _ _
  omega
theorem sh_B {M : Mx} {a b : Nat} {c d : Int} (ha : a < 8) (hb : b < 8) (hz : mZ M) (hd : 0 ≤ d) (hc : 1 ≤ c ∧ c ≤ 100) (h : mBd d M) : mBd (2 * d + 100) (sh M a b c) := by
  intro v t hv ht
  have a1 := h v t hv ht
  have a2 := h v a hv ha
  have a3 := h b t hb ht
  have z1 := hz.2 v t hv ht
  have z2 := hz.2 v a hv ha
  have z3 := hz.2 b t hb ht
  have k := ls_c (M v a + c + M b t) (M v t)
  show ls _ _ = 1000000 ∨ ls _ _ ≤ 2 * d + 100
  omega
/-- both passes over link n -/
theorem sh2_Cl {n : Nat} {fi se co : Nat → Int} {M : Mx} {a b : Nat} {c : Int} (ha : a < 8) (hb : b < 8) (hc : 1 ≤ c) (hf : (fi n).toNat = a) (hs : (se n).toNat = b) (hco : co n = c) (h : mCl n fi se co M) : mCl (n + 1) fi se co (sh (sh M a b c) b a c) := by
  have z1 := sh_Z ha hb hc h.1
  have t1 := sh_T ha hb hc h.1 h.2.1
  refine ⟨sh_Z hb ha hc z1, sh_T hb ha hc z1 t1, fun k hk => ?_⟩
  have u1 := sh_le (sh M a b c) b a c
  have u0 := sh_le M a b c
  by_cases e : k = n
  · subst e
    rw [hf, hs, hco]
    have x1 := sh_new (c := c) ha hb h.1
    have x2 := sh_new (c := c) hb ha z1
    have x3 := u1 a b
    exact ⟨by omega, x2⟩
  · have x := h.2.2 k (by omega)
    have x1 := u1 (fi k).toNat (se k).toNat
    have x2 := u0 (fi k).toNat (se k).toNat
    have x3 := u1 (se k).toNat (fi k).toNat
    have x4 := u0 (se k).toNat (fi k).toNat
    exact ⟨by omega, by omega⟩
theorem sh2_Gr {n : Nat} {fi se co : Nat → Int} {M : Mx} {a b : Nat} {c : Int} (ha : a < 8) (hb : b < 8) (hf : (fi n).toNat = a) (hs : (se n).toNat = b) (hco : co n = c) (h : mGr n fi se co M) : mGr (n + 1) fi se co (sh (sh M a b c) b a c) := by
  intro X hX
  have k := hX.2.2 n (by omega)
  rw [hf, hs, hco] at k
  exact sh_G hb ha hX.2.1 k.2 (sh_G ha hb hX.2.1 k.1 (h X ⟨hX.1, hX.2.1, fun j hj => hX.2.2 j (by omega)⟩))
/-! ===== the reference's first matrix, with its links ===== -/
def m0 : Mx := fun v t => if v = t then 0 else 1000000
def ln1 (M : Mx) (a b : Nat) (c : Int) : Mx := fun v t => if v = a ∧ t = b then ls (M v t) c else M v t
theorem m0_Z : mZ m0 := by
  refine ⟨fun v _ => ?_, fun v t _ _ => ?_⟩
  · show (if v = v then (0 : Int) else 1000000) = 0
    rw [if_pos rfl]
  · show 0 ≤ (if v = t then (0 : Int) else 1000000) ∧ (if v = t then (0 : Int) else 1000000) ≤ 1000000
    by_cases h : v = t
    · rw [if_pos h]; omega
    · rw [if_neg h]; omega
theorem m0_B : mBd 100 m0 := by
  intro v t _ _
  show (if v = t then (0 : Int) else 1000000) = 1000000 ∨ (if v = t then (0 : Int) else 1000000) ≤ 100
  by_cases h : v = t
  · rw [if_pos h]; omega
  · rw [if_neg h]; omega
theorem m0_G {X : Mx} (h : mZ X) : ∀ v t, v < 8 → t < 8 → X v t ≤ m0 v t := by
  intro v t hv ht
  show X v t ≤ (if v = t then (0 : Int) else 1000000)
  by_cases e : v = t
  · rw [if_pos e, ← e, h.1 v hv]; omega
  · rw [if_neg e]; exact (h.2 v t hv ht).2
theorem ln1_le (M : Mx) (a b : Nat) (c : Int) (v t : Nat) : ln1 M a b c v t ≤ M v t := by
  unfold ln1
  by_cases e : v = a ∧ t = b
  · rw [if_pos e]; exact ls_l _ _
  · rw [if_neg e]; omega
theorem ln1_new (M : Mx) (a b : Nat) (c : Int) : ln1 M a b c a b ≤ c := by
  unfold ln1
  rw [if_pos ⟨rfl, rfl⟩]
  exact ls_r _ _
theorem ln1_Z {M : Mx} {a b : Nat} {c : Int} (hab : a ≠ b) (hc : 0 ≤ c) (h : mZ M) : mZ (ln1 M a b c) := by
  refine ⟨fun v hv => ?_, fun v t hv ht => ?_⟩
  · unfold ln1
    rw [if_neg (fun e => hab (e.1.symm.trans e.2))]
    exact h.1 v hv
  · have h0 := h.2 v t hv ht
    unfold ln1
    by_cases e : v = a ∧ t = b
    · rw [if_pos e]
      have k := ls_c (M v t) c
      omega
    · rw [if_neg e]; exact h0
theorem ln1_B {M : Mx} {a b : Nat} {c : Int} (hc : c ≤ 100) (h : mBd 100 M) : mBd 100 (ln1 M a b c) := by
  intro v t hv ht
  have h0 := h v t hv ht
  unfold ln1
  by_cases e : v = a ∧ t = b
  · rw [if_pos e]
    have k := ls_c (M v t) c
    omega
  · rw [if_neg e]; exact h0
theorem ln1_G {X M : Mx} {a b : Nat} {c : Int} (hab : X a b ≤ c) (h : ∀ v t, v < 8 → t < 8 → X v t ≤ M v t) : ∀ v t, v < 8 → t < 8 → X v t ≤ ln1 M a b c v t := by
  intro v t hv ht
  have h0 := h v t hv ht
  unfold ln1
  by_cases e : v = a ∧ t = b
  · obtain ⟨rfl, rfl⟩ := e
    rw [if_pos ⟨rfl, rfl⟩]
    have k := ls_c (M v t) c
    omega
  · rw [if_neg e]; exact h0
