/-! ===== the same memory over the whole numbers; a guard wherever a number is compared, divided or widened ===== -/
abbrev MemI : Type := (Nat → Nat → Nat → Int) × (Nat → Int)
def EE (a : MemI) : Mem := (fun c i j => Int32.ofInt (a.1 c i j), fun j => Int64.ofInt (a.2 j))
def pN (a : MemI) (kc ki j : Nat) (v : Int) : MemI := (fun c i k => if c = kc ∧ i = ki ∧ k = j then v else a.1 c i k, a.2)
def pM (a : MemI) (j : Nat) (v : Int) : MemI := (a.1, fun k => if k = j then v else a.2 k)
def cN (a : MemI) (kc ki : Nat) (sp dp ln : Int) : MemI := (fun c i k => if c = kc ∧ i = ki ∧ dp.toNat ≤ k ∧ k < dp.toNat + ln.toNat then a.1 kc ki (sp.toNat + (k - dp.toNat)) else a.1 c i k, a.2)
def cM (a : MemI) (sp dp ln : Int) : MemI := (a.1, fun k => if dp.toNat ≤ k ∧ k < dp.toNat + ln.toNat then a.2 (sp.toNat + (k - dp.toNat)) else a.2 k)
def aiz (n : Nat) (x : Int) : Option Nat := if 0 ≤ x ∧ x < n then some x.toNat else none
def biz (x : Int) : Option Unit := if x = 0 ∨ x = 1 then some () else none
def acz (n : Nat) (sp dp ln : Int) : Option Unit := if 0 ≤ sp ∧ 0 ≤ dp ∧ 0 ≤ ln ∧ sp + ln ≤ n ∧ dp + ln ≤ n then some () else none
def stN {α : Type} (z : MemI) (f : MemI → Option α) : Option α := f z
def stW {α : Type} (x : Int) (f : Int → Option α) : Option α := f x
def rg (x : Int) : Option Unit := if (-2147483648 ≤ x ∧ x < 2147483648) then some () else none
def rl (x : Int) : Option Unit := if (-9223372036854775808 ≤ x ∧ x < 9223372036854775808) then some () else none
def nn (x : Int) : Option Unit := if 0 ≤ x ∧ x < 2147483648 then some () else none
def nl (x : Int) : Option Unit := if 0 ≤ x ∧ x < 9223372036854775808 then some () else none
def cmpZ (x y : Int) : Int := if x > y then 1 else if x = y then 0 else -1
theorem rg_some {x : Int} {u : Unit} (h : rg x = some u) : (-2147483648 ≤ x ∧ x < 2147483648) := by
  unfold rg at h
  by_cases c : (-2147483648 ≤ x ∧ x < 2147483648)
  · exact c
  · rw [if_neg c] at h
    cases h
theorem rl_some {x : Int} {u : Unit} (h : rl x = some u) : (-9223372036854775808 ≤ x ∧ x < 9223372036854775808) := by
  unfold rl at h
  by_cases c : (-9223372036854775808 ≤ x ∧ x < 9223372036854775808)
  · exact c
  · rw [if_neg c] at h
    cases h
theorem nn_some {x : Int} {u : Unit} (h : nn x = some u) : 0 ≤ x ∧ x < 2147483648 := by
  unfold nn at h
  by_cases c : 0 ≤ x ∧ x < 2147483648
  · exact c
  · rw [if_neg c] at h
    cases h
theorem nl_some {x : Int} {u : Unit} (h : nl x = some u) : 0 ≤ x ∧ x < 9223372036854775808 := by
  unfold nl at h
  by_cases c : 0 ≤ x ∧ x < 9223372036854775808
  · exact c
  · rw [if_neg c] at h
    cases h
theorem rg_ok {x : Int} (h : (-2147483648 ≤ x ∧ x < 2147483648)) : rg x = some () := if_pos h
theorem rl_ok {x : Int} (h : (-9223372036854775808 ≤ x ∧ x < 9223372036854775808)) : rl x = some () := if_pos h
theorem nn_ok {x : Int} (h : 0 ≤ x ∧ x < 2147483648) : nn x = some () := if_pos h
theorem nl_ok {x : Int} (h : 0 ≤ x ∧ x < 9223372036854775808) : nl x = some () := if_pos h
theorem aiz_ok {n : Nat} {x : Int} (h : 0 ≤ x ∧ x < n) : aiz n x = some x.toNat := if_pos h
theorem biz_ok {x : Int} (h : x = 0 ∨ x = 1) : biz x = some () := if_pos h
theorem acz_ok {n : Nat} {sp dp ln : Int} (h : 0 ≤ sp ∧ 0 ≤ dp ∧ 0 ≤ ln ∧ sp + ln ≤ n ∧ dp + ln ≤ n) : acz n sp dp ln = some () := if_pos h
theorem ti {x : Int} (h : (-2147483648 ≤ x ∧ x < 2147483648)) : (Int32.ofInt x).toInt = x := Int32.toInt_ofInt_of_le (by omega) (by omega)
theorem tl {x : Int} (h : (-9223372036854775808 ≤ x ∧ x < 9223372036854775808)) : (Int64.ofInt x).toInt = x := Int64.toInt_ofInt_of_le (by omega) (by omega)
theorem tn {x : Int} (h : (-2147483648 ≤ x ∧ x < 2147483648)) : (Int32.ofInt x).toNatClampNeg = x.toNat := by
  unfold Int32.toNatClampNeg
  rw [ti h]
theorem neg_i {x : Int} (h : 0 ≤ x ∧ x < 2147483648) : ¬ Int32.ofInt x < 0 := by
  rw [Int32.lt_iff_toInt_lt, ti (by omega)]
  have e : (0 : Int32).toInt = 0 := by decide
  rw [e]
  omega
theorem aix_i {n : Nat} {X : Int32} {x : Int} {j : Nat} (hn : n ≤ 2147483647) (h : aiz n x = some j) (hX : X = Int32.ofInt x) : aix n X = some j := by
  subst hX
  unfold aiz at h
  by_cases c : 0 ≤ x ∧ x < n
  · rw [if_pos c] at h
    cases h
    unfold aix
    rw [tn (by omega), if_neg]
    intro q
    rcases q with q | q
    · exact neg_i (by omega) q
    · omega
  · rw [if_neg c] at h
    cases h
theorem bz_i {X : Int32} {x : Int} {u : Unit} (h : biz x = some u) (hX : X = Int32.ofInt x) : bz X = some u := by
  subst hX
  unfold biz at h
  by_cases c : x = 0 ∨ x = 1
  · cases u
    rcases c with rfl | rfl
    · exact if_pos (Or.inl rfl)
    · exact if_pos (Or.inr rfl)
  · rw [if_neg c] at h
    cases h
theorem acz_some {n : Nat} {sp dp ln : Int} {u : Unit} (h : acz n sp dp ln = some u) : 0 ≤ sp ∧ 0 ≤ dp ∧ 0 ≤ ln ∧ sp + ln ≤ n ∧ dp + ln ≤ n := by
  unfold acz at h
  by_cases c : 0 ≤ sp ∧ 0 ≤ dp ∧ 0 ≤ ln ∧ sp + ln ≤ n ∧ dp + ln ≤ n
  · exact c
  · rw [if_neg c] at h
    cases h
theorem acp_i {n : Nat} {S D N : Int32} {sp dp ln : Int} {u : Unit} (hn : n ≤ 2147483647) (h : acz n sp dp ln = some u) (hS : S = Int32.ofInt sp) (hD : D = Int32.ofInt dp) (hN : N = Int32.ofInt ln) : acp n S D N = some u := by
  subst hS hD hN
  have c := acz_some h
  cases u
  unfold acp
  rw [tn (by omega), tn (by omega), tn (by omega)]
  exact if_pos ⟨neg_i (by omega), neg_i (by omega), neg_i (by omega), by omega, by omega⟩
theorem bnd_i {α β : Type} {o : Option α} {v : α} {F : α → Option β} {r : Option β} (h : o = some v) (k : F v = r) : o.bind F = r := by rw [h]; exact k
theorem stM_i {α : Type} {Z Z1 : Mem} {f : Mem → Option α} {r : Option α} (hZ : Z = Z1) (h : f Z1 = r) : stM Z f = r := by subst hZ; exact h
theorem stV_i {α β : Type} {X Y : β} {f : β → Option α} {r : Option α} (hX : X = Y) (h : f Y = r) : stV X f = r := by subst hX; exact h
theorem stN_o {α : Type} {z : MemI} {f : MemI → Option α} {r : Option α} (h : stN z f = r) : ∃ z1, z1 = z ∧ f z1 = r := ⟨z, rfl, h⟩
theorem stW_o {α : Type} {x : Int} {f : Int → Option α} {r : Option α} (h : stW x f = r) : ∃ v, v = x ∧ f v = r := ⟨x, rfl, h⟩
theorem hEq {X : Int32} {x v : Int} (e : v = x) (h : X = Int32.ofInt x) : X = Int32.ofInt v := by rw [e]; exact h
theorem hEqL {X : Int64} {x v : Int} (e : v = x) (h : X = Int64.ofInt x) : X = Int64.ofInt v := by rw [e]; exact h
theorem pI_i {a a1 : MemI} {kc ki j : Nat} {V : Int32} {v : Int} (e : a1 = pN a kc ki j v) (hV : V = Int32.ofInt v) : pI (EE a) kc ki j V = EE a1 := by
  subst e hV
  refine Prod.ext ?_ rfl
  funext c i k
  show (if c = kc ∧ i = ki then upd ((EE a).1 kc ki) j (Int32.ofInt v) else (EE a).1 c i) k = Int32.ofInt (if c = kc ∧ i = ki ∧ k = j then v else a.1 c i k)
  by_cases h1 : c = kc ∧ i = ki
  · rw [if_pos h1]
    show (if k = j then Int32.ofInt v else Int32.ofInt (a.1 kc ki k)) = _
    by_cases h2 : k = j
    · rw [if_pos h2, if_pos ⟨h1.1, h1.2, h2⟩]
    · rw [if_neg h2, if_neg (fun q => h2 q.2.2), h1.1, h1.2]
  · rw [if_neg h1, if_neg (fun q => h1 ⟨q.1, q.2.1⟩)]
    rfl
theorem pL_i {a a1 : MemI} {j : Nat} {V : Int64} {v : Int} (e : a1 = pM a j v) (hV : V = Int64.ofInt v) : pL (EE a) j V = EE a1 := by
  subst e hV
  refine Prod.ext rfl ?_
  funext k
  show (if k = j then Int64.ofInt v else Int64.ofInt (a.2 k)) = Int64.ofInt (if k = j then v else a.2 k)
  by_cases h : k = j
  · rw [if_pos h, if_pos h]
  · rw [if_neg h, if_neg h]
theorem cpI_i {a a1 : MemI} {n kc ki : Nat} {S D N : Int32} {sp dp ln : Int} {u : Unit} (hn : n ≤ 2147483647) (g : acz n sp dp ln = some u) (e : a1 = cN a kc ki sp dp ln) (hS : S = Int32.ofInt sp) (hD : D = Int32.ofInt dp) (hN : N = Int32.ofInt ln) : cpI (EE a) kc ki S D N = EE a1 := by
  subst e hS hD hN
  have c := acz_some g
  refine Prod.ext ?_ rfl
  funext q i k
  show (if q = kc ∧ i = ki then va_cpy ((EE a).1 kc ki) ((EE a).1 kc ki) (Int32.ofInt sp).toNatClampNeg (Int32.ofInt dp).toNatClampNeg (Int32.ofInt ln).toNatClampNeg else (EE a).1 q i) k = Int32.ofInt (if q = kc ∧ i = ki ∧ dp.toNat ≤ k ∧ k < dp.toNat + ln.toNat then a.1 kc ki (sp.toNat + (k - dp.toNat)) else a.1 q i k)
  rw [tn (by omega), tn (by omega), tn (by omega)]
  by_cases h1 : q = kc ∧ i = ki
  · rw [if_pos h1]
    show (if dp.toNat ≤ k ∧ k < dp.toNat + ln.toNat then Int32.ofInt (a.1 kc ki (sp.toNat + (k - dp.toNat))) else Int32.ofInt (a.1 kc ki k)) = _
    by_cases h2 : dp.toNat ≤ k ∧ k < dp.toNat + ln.toNat
    · rw [if_pos h2, if_pos ⟨h1.1, h1.2, h2.1, h2.2⟩]
    · rw [if_neg h2, if_neg (fun w => h2 w.2.2), h1.1, h1.2]
  · rw [if_neg h1, if_neg (fun w => h1 ⟨w.1, w.2.1⟩)]
    rfl
theorem cpL_i {a a1 : MemI} {n : Nat} {S D N : Int32} {sp dp ln : Int} {u : Unit} (hn : n ≤ 2147483647) (g : acz n sp dp ln = some u) (e : a1 = cM a sp dp ln) (hS : S = Int32.ofInt sp) (hD : D = Int32.ofInt dp) (hN : N = Int32.ofInt ln) : cpL (EE a) S D N = EE a1 := by
  subst e hS hD hN
  have c := acz_some g
  refine Prod.ext rfl ?_
  funext k
  show va_cpy (EE a).2 (EE a).2 (Int32.ofInt sp).toNatClampNeg (Int32.ofInt dp).toNatClampNeg (Int32.ofInt ln).toNatClampNeg k = Int64.ofInt (if dp.toNat ≤ k ∧ k < dp.toNat + ln.toNat then a.2 (sp.toNat + (k - dp.toNat)) else a.2 k)
  rw [tn (by omega), tn (by omega), tn (by omega)]
  show (if dp.toNat ≤ k ∧ k < dp.toNat + ln.toNat then Int64.ofInt (a.2 (sp.toNat + (k - dp.toNat))) else Int64.ofInt (a.2 k)) = _
  by_cases h2 : dp.toNat ≤ k ∧ k < dp.toNat + ln.toNat
  · rw [if_pos h2, if_pos h2]
  · rw [if_neg h2, if_neg h2]
theorem hAdd {X Y : Int32} {x y : Int} (hX : X = Int32.ofInt x) (hY : Y = Int32.ofInt y) : X + Y = Int32.ofInt (x + y) := by rw [hX, hY, Int32.ofInt_add]
theorem hSub {X Y : Int32} {x y : Int} (hX : X = Int32.ofInt x) (hY : Y = Int32.ofInt y) : X - Y = Int32.ofInt (x - y) := by rw [hX, hY, Int32.ofInt_sub]
theorem hMul {X Y : Int32} {x y : Int} (hX : X = Int32.ofInt x) (hY : Y = Int32.ofInt y) : X * Y = Int32.ofInt (x * y) := by rw [hX, hY, Int32.ofInt_mul]
theorem hAddL {X Y : Int64} {x y : Int} (hX : X = Int64.ofInt x) (hY : Y = Int64.ofInt y) : X + Y = Int64.ofInt (x + y) := by rw [hX, hY, Int64.ofInt_add]
theorem hSubL {X Y : Int64} {x y : Int} (hX : X = Int64.ofInt x) (hY : Y = Int64.ofInt y) : X - Y = Int64.ofInt (x - y) := by rw [hX, hY, Int64.ofInt_sub]
theorem hMulL {X Y : Int64} {x y : Int} (hX : X = Int64.ofInt x) (hY : Y = Int64.ofInt y) : X * Y = Int64.ofInt (x * y) := by rw [hX, hY, Int64.ofInt_mul]
theorem hDiv {X Y : Int32} {x y : Int} {u : Unit} (hy : 0 < y ∧ y < 2147483648) (g : nn x = some u) (hX : X = Int32.ofInt x) (hY : Y = Int32.ofInt y) : X / Y = Int32.ofInt (x / y) := by
  have c := nn_some g
  have e1 : Int32.minValue.toInt = -2147483648 := by decide
  have e2 : Int32.maxValue.toInt = 2147483647 := by decide
  rw [hX, hY, ← Int.tdiv_eq_ediv_of_nonneg c.1, Int32.ofInt_tdiv (by omega) (by omega) (by omega) (by omega)]
theorem hMod {X Y : Int32} {x y : Int} {u : Unit} (hy : 0 < y ∧ y < 2147483648) (g : nn x = some u) (hX : X = Int32.ofInt x) (hY : Y = Int32.ofInt y) : X - X / Y * Y = Int32.ofInt (x % y) := by
  rw [hDiv hy g hX hY, hX, hY, ← Int32.ofInt_mul, ← Int32.ofInt_sub, Int.emod_def, Int.mul_comm]
theorem hDivL {X Y : Int64} {x y : Int} {u : Unit} (hy : 0 < y ∧ y < 9223372036854775808) (g : nl x = some u) (hX : X = Int64.ofInt x) (hY : Y = Int64.ofInt y) : X / Y = Int64.ofInt (x / y) := by
  have c := nl_some g
  have e1 : Int64.minValue.toInt = -9223372036854775808 := by decide
  have e2 : Int64.maxValue.toInt = 9223372036854775807 := by decide
  rw [hX, hY, ← Int.tdiv_eq_ediv_of_nonneg c.1, Int64.ofInt_tdiv (by omega) (by omega) (by omega) (by omega)]
theorem hModL {X Y : Int64} {x y : Int} {u : Unit} (hy : 0 < y ∧ y < 9223372036854775808) (g : nl x = some u) (hX : X = Int64.ofInt x) (hY : Y = Int64.ofInt y) : X - X / Y * Y = Int64.ofInt (x % y) := by
  rw [hDivL hy g hX hY, hX, hY, ← Int64.ofInt_mul, ← Int64.ofInt_sub, Int.emod_def, Int.mul_comm]
theorem hI2L {X : Int32} {x : Int} {u : Unit} (g : rg x = some u) (hX : X = Int32.ofInt x) : X.toInt64 = Int64.ofInt x := by
  have c := rg_some g
  have e1 : Int32.minValue.toInt = -2147483648 := by decide
  have e2 : Int32.maxValue.toInt = 2147483647 := by decide
  rw [hX, Int32.toInt64_ofInt (by omega) (by omega)]
theorem hL2I {X : Int64} {x : Int} (hX : X = Int64.ofInt x) : X.toInt32 = Int32.ofInt x := by rw [hX, Int64.toInt32_ofInt]
theorem lt_i {X Y : Int32} {x y : Int} (gx : (-2147483648 ≤ x ∧ x < 2147483648)) (gy : (-2147483648 ≤ y ∧ y < 2147483648)) (hX : X = Int32.ofInt x) (hY : Y = Int32.ofInt y) : X < Y ↔ x < y := by rw [hX, hY, Int32.lt_iff_toInt_lt, ti gx, ti gy]
theorem le_i {X Y : Int32} {x y : Int} (gx : (-2147483648 ≤ x ∧ x < 2147483648)) (gy : (-2147483648 ≤ y ∧ y < 2147483648)) (hX : X = Int32.ofInt x) (hY : Y = Int32.ofInt y) : X ≤ Y ↔ x ≤ y := by rw [hX, hY, Int32.le_iff_toInt_le, ti gx, ti gy]
theorem eq_i {X Y : Int32} {x y : Int} (gx : (-2147483648 ≤ x ∧ x < 2147483648)) (gy : (-2147483648 ≤ y ∧ y < 2147483648)) (hX : X = Int32.ofInt x) (hY : Y = Int32.ofInt y) : X = Y ↔ x = y := by rw [hX, hY, ← Int32.toInt_inj, ti gx, ti gy]
theorem hCmp {X Y : Int64} {x y : Int} {u w : Unit} (gx : rl x = some u) (gy : rl y = some w) (hX : X = Int64.ofInt x) (hY : Y = Int64.ofInt y) : lg_cmp X Y = Int32.ofInt (cmpZ x y) := by
  have cx := rl_some gx
  have cy := rl_some gy
  have h1 : X > Y ↔ x > y := by
    show Y < X ↔ y < x
    rw [hX, hY, Int64.lt_iff_toInt_lt, tl cx, tl cy]
  have h2 : X = Y ↔ x = y := by rw [hX, hY, ← Int64.toInt_inj, tl cx, tl cy]
  unfold lg_cmp cmpZ
  by_cases c1 : x > y
  · rw [if_pos (h1.mpr c1), if_pos c1]
    rfl
  · rw [if_neg (fun q => c1 (h1.mp q)), if_neg c1]
    by_cases c2 : x = y
    · rw [if_pos (h2.mpr c2), if_pos c2]
      rfl
    · rw [if_neg (fun q => c2 (h2.mp q)), if_neg c2]
      rfl
theorem ite_gt {α : Type} {c d : Prop} {i : Decidable c} {a b r : α} (hc : c ↔ d) (hd : d) (h : a = r) : (@ite α c i a b) = r := by rw [if_pos (hc.mpr hd)]; exact h
theorem ite_gf {α : Type} {c d : Prop} {i : Decidable c} {a b r : α} (hc : c ↔ d) (hd : ¬ d) (h : b = r) : (@ite α c i a b) = r := by rw [if_neg (fun q => hd (hc.mp q))]; exact h
theorem ret_i {V : Int32} {v r0 : Int} {a a0 : MemI} (hV : V = Int32.ofInt v) (h : some (v, a) = some (r0, a0)) : some (V, EE a) = some (Int32.ofInt r0, EE a0) := by cases h; rw [hV]
theorem retj_i {V : Int64} {v r0 : Int} {a a0 : MemI} (hV : V = Int64.ofInt v) (h : some (v, a) = some (r0, a0)) : some (V, EE a) = some (Int64.ofInt r0, EE a0) := by cases h; rw [hV]
theorem retv_i {a a0 : MemI} (h : some a = some a0) : some (EE a) = some (EE a0) := by cases h; rfl
theorem retp_i {V : Int32} {v r0 : Int} (hV : V = Int32.ofInt v) (h : some v = some r0) : some V = some (Int32.ofInt r0) := by cases h; rw [hV]
theorem retpj_i {V : Int64} {v r0 : Int} (hV : V = Int64.ofInt v) (h : some v = some r0) : some V = some (Int64.ofInt r0) := by cases h; rw [hV]
theorem l32_m1 : (-1 : Int32) = Int32.ofInt (-1) := by decide
theorem l32_0 : (0 : Int32) = Int32.ofInt 0 := by decide
theorem l32_1 : (1 : Int32) = Int32.ofInt 1 := by decide
theorem l32_2 : (2 : Int32) = Int32.ofInt 2 := by decide
theorem l32_3 : (3 : Int32) = Int32.ofInt 3 := by decide
theorem l32_4 : (4 : Int32) = Int32.ofInt 4 := by decide
theorem l32_5 : (5 : Int32) = Int32.ofInt 5 := by decide
theorem l32_6 : (6 : Int32) = Int32.ofInt 6 := by decide
theorem l32_7 : (7 : Int32) = Int32.ofInt 7 := by decide
theorem l32_8 : (8 : Int32) = Int32.ofInt 8 := by decide
theorem l32_9 : (9 : Int32) = Int32.ofInt 9 := by decide
theorem l32_10 : (10 : Int32) = Int32.ofInt 10 := by decide
theorem l32_11 : (11 : Int32) = Int32.ofInt 11 := by decide
theorem l32_12 : (12 : Int32) = Int32.ofInt 12 := by decide
theorem l32_13 : (13 : Int32) = Int32.ofInt 13 := by decide
theorem l32_14 : (14 : Int32) = Int32.ofInt 14 := by decide
theorem l32_15 : (15 : Int32) = Int32.ofInt 15 := by decide
theorem l32_16 : (16 : Int32) = Int32.ofInt 16 := by decide
theorem l32_17 : (17 : Int32) = Int32.ofInt 17 := by decide
theorem l32_18 : (18 : Int32) = Int32.ofInt 18 := by decide
theorem l32_19 : (19 : Int32) = Int32.ofInt 19 := by decide
theorem l32_20 : (20 : Int32) = Int32.ofInt 20 := by decide
theorem l32_21 : (21 : Int32) = Int32.ofInt 21 := by decide
theorem l32_22 : (22 : Int32) = Int32.ofInt 22 := by decide
theorem l32_23 : (23 : Int32) = Int32.ofInt 23 := by decide
theorem l32_24 : (24 : Int32) = Int32.ofInt 24 := by decide
theorem l32_25 : (25 : Int32) = Int32.ofInt 25 := by decide
theorem l32_26 : (26 : Int32) = Int32.ofInt 26 := by decide
theorem l32_27 : (27 : Int32) = Int32.ofInt 27 := by decide
theorem l32_28 : (28 : Int32) = Int32.ofInt 28 := by decide
theorem l32_29 : (29 : Int32) = Int32.ofInt 29 := by decide
theorem l32_30 : (30 : Int32) = Int32.ofInt 30 := by decide
theorem l32_31 : (31 : Int32) = Int32.ofInt 31 := by decide
theorem l32_32 : (32 : Int32) = Int32.ofInt 32 := by decide
theorem l32_33 : (33 : Int32) = Int32.ofInt 33 := by decide
theorem l32_35 : (35 : Int32) = Int32.ofInt 35 := by decide
theorem l32_36 : (36 : Int32) = Int32.ofInt 36 := by decide
theorem l32_37 : (37 : Int32) = Int32.ofInt 37 := by decide
theorem l32_38 : (38 : Int32) = Int32.ofInt 38 := by decide
theorem l32_40 : (40 : Int32) = Int32.ofInt 40 := by decide
theorem l32_50 : (50 : Int32) = Int32.ofInt 50 := by decide
theorem l32_54 : (54 : Int32) = Int32.ofInt 54 := by decide
theorem l32_64 : (64 : Int32) = Int32.ofInt 64 := by decide
theorem l32_70 : (70 : Int32) = Int32.ofInt 70 := by decide
theorem l32_100 : (100 : Int32) = Int32.ofInt 100 := by decide
theorem l32_128 : (128 : Int32) = Int32.ofInt 128 := by decide
theorem l32_200 : (200 : Int32) = Int32.ofInt 200 := by decide
theorem l32_256 : (256 : Int32) = Int32.ofInt 256 := by decide
theorem l32_1000 : (1000 : Int32) = Int32.ofInt 1000 := by decide
theorem l32_65536 : (65536 : Int32) = Int32.ofInt 65536 := by decide
theorem l32_1000000 : (1000000 : Int32) = Int32.ofInt 1000000 := by decide
theorem l64_m1 : (-1 : Int64) = Int64.ofInt (-1) := by decide
theorem l64_0 : (0 : Int64) = Int64.ofInt 0 := by decide
theorem l64_256 : (256 : Int64) = Int64.ofInt 256 := by decide
theorem l64_65536 : (65536 : Int64) = Int64.ofInt 65536 := by decide
theorem l64_1048576 : (1048576 : Int64) = Int64.ofInt 1048576 := by decide
theorem l64_4294967296 : (4294967296 : Int64) = Int64.ofInt 4294967296 := by decide
