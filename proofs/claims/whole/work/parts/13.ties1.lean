set_option maxRecDepth 20000 in
theorem i_P_serveFirst {x0 : Nat} {z : MemI} {a0 : MemI} (h : di_P_serveFirst x0 z = some a0)  : dn_P_serveFirst x0 (EE z) = some (EE a0) := by
  unfold di_P_serveFirst at h
  unfold dn_P_serveFirst
  obtain ⟨_, g1, h⟩ := bnd h
  by_cases hc2 : (z.1 4 x0 10) = (0 : Int)
  · have h := ite_t h hc2
    refine ite_gt (eq_i (x := (z.1 4 x0 10)) (y := (0 : Int)) (rg_some g1) (by decide) rfl l32_0) hc2 ?_
    obtain ⟨j1, ej1, h⟩ := bnd h
    refine bnd_i (aix_i (by decide) ej1 l32_0) ?_
    obtain ⟨j2, ej2, h⟩ := bnd h
    refine bnd_i (aix_i (by decide) ej2 rfl) ?_
    obtain ⟨j3, ej3, h⟩ := bnd h
    refine bnd_i (aix_i (by decide) ej3 rfl) ?_
    obtain ⟨z4, ez4, h⟩ := stN_o h
    refine stM_i (pI_i ez4 (hAdd rfl rfl)) ?_
    obtain ⟨_, g3, h⟩ := bnd h
    refine bnd_i (bz_i g3 l32_1) ?_
    obtain ⟨z6, ez6, h⟩ := stN_o h
    refine stM_i (pI_i ez6 l32_1) ?_
    exact retv_i h
  · have h := ite_f h hc2
    refine ite_gf (eq_i (x := (z.1 4 x0 10)) (y := (0 : Int)) (rg_some g1) (by decide) rfl l32_0) hc2 ?_
    exact retv_i h
set_option maxRecDepth 20000 in
theorem i_X_firstPlaceOf_2 {Kk36 : Int32 → Mem → Option (Int32 × Mem)} {k36 : Int → MemI → Option (Int × MemI)} {r0 : Int} {a0 : MemI}
    (hk36 : ∀ (Xy0 : Int32) (y0 : Int) (y1 : MemI), k36 y0 y1 = some (r0, a0) → Xy0 = Int32.ofInt y0 → Kk36 Xy0 (EE y1) = some (Int32.ofInt r0, EE a0)) :
    ∀ (n : Nat) {Xx2 : Int32} {Xx3 : Int32} {x1 : Nat} {x2 : Int} {x3 : Int} {z : MemI}, di_X_firstPlaceOf_2 k36 n x1 x2 x3 z = some (r0, a0) → Xx2 = Int32.ofInt x2 → Xx3 = Int32.ofInt x3 → dn_X_firstPlaceOf_2 Kk36 n x1 Xx2 Xx3 (EE z) = some (Int32.ofInt r0, EE a0) := by
  intro n
  induction n with
  | zero =>
    intro Xx2 Xx3 x1 x2 x3 z h hx2 hx3
    cases h
  | succ n ih =>
    intro Xx2 Xx3 x1 x2 x3 z h hx2 hx3
    subst hx2 hx3
    rw [di_X_firstPlaceOf_2] at h
    rw [dn_X_firstPlaceOf_2]
    obtain ⟨_, g1, h⟩ := bnd h
    obtain ⟨_, g2, h⟩ := bnd h
    by_cases hc3 : ((z.1 4 x1 8) - (1 : Int)) ≤ x3
    · have h := ite_t h hc3
      refine ite_gt (le_i (x := ((z.1 4 x1 8) - (1 : Int))) (y := x3) (rg_some g1) (rg_some g2) (hSub rfl l32_1) rfl) hc3 ?_
      exact hk36 _ _ _ h rfl
    · have h := ite_f h hc3
      refine ite_gf (le_i (x := ((z.1 4 x1 8) - (1 : Int))) (y := x3) (rg_some g1) (rg_some g2) (hSub rfl l32_1) rfl) hc3 ?_
      obtain ⟨j1, ej1, h⟩ := bnd h
      refine bnd_i (aix_i (by decide) ej1 rfl) ?_
      obtain ⟨j2, ej2, h⟩ := bnd h
      refine bnd_i (aix_i (by decide) ej2 rfl) ?_
      obtain ⟨_, g4, h⟩ := bnd h
      obtain ⟨_, g5, h⟩ := bnd h
      by_cases hc6 : (z.1 11 j2 2) = x2
      · have h := ite_t h hc6
        refine ite_gt (eq_i (x := (z.1 11 j2 2)) (y := x2) (rg_some g4) (rg_some g5) rfl rfl) hc6 ?_
        exact hk36 _ _ _ h rfl
      · have h := ite_f h hc6
        refine ite_gf (eq_i (x := (z.1 11 j2 2)) (y := x2) (rg_some g4) (rg_some g5) rfl rfl) hc6 ?_
        exact ih h rfl (hAdd rfl l32_1)
set_option maxRecDepth 20000 in
theorem i_X_firstPlaceOf {Xx2 : Int32} {x1 : Nat} {x2 : Int} {z : MemI} {r0 : Int} {a0 : MemI} (h : di_X_firstPlaceOf x1 x2 z = some (r0, a0)) (hx2 : Xx2 = Int32.ofInt x2) : dn_X_firstPlaceOf x1 Xx2 (EE z) = some (Int32.ofInt r0, EE a0) := by
  subst hx2
  unfold di_X_firstPlaceOf at h
  unfold dn_X_firstPlaceOf
  refine i_X_firstPlaceOf_2 (fun Xx3 x3 z3 h hx3 => ?_) FU h rfl l32_0
  · subst hx3
    exact ret_i rfl h
set_option maxRecDepth 20000 in
theorem i_P_dropFirst {x0 : Nat} {z : MemI} {a0 : MemI} (h : di_P_dropFirst x0 z = some a0)  : dn_P_dropFirst x0 (EE z) = some (EE a0) := by
  unfold di_P_dropFirst at h
  unfold dn_P_dropFirst
  obtain ⟨_, g1, h⟩ := bnd h
  by_cases hc2 : (z.1 4 x0 9) ≤ (0 : Int)
  · have h := ite_t h hc2
    refine ite_gt (le_i (x := (z.1 4 x0 9)) (y := (0 : Int)) (rg_some g1) (by decide) rfl l32_0) hc2 ?_
    exact retv_i h
  · have h := ite_f h hc2
    refine ite_gf (le_i (x := (z.1 4 x0 9)) (y := (0 : Int)) (rg_some g1) (by decide) rfl l32_0) hc2 ?_
    obtain ⟨z1, ez1, h⟩ := stN_o h
    refine stM_i (pI_i ez1 (hSub rfl l32_1)) ?_
    obtain ⟨_, g3, h⟩ := bnd h
    refine bnd_i (acp_i (by decide) g3 l32_1 l32_0 rfl) ?_
    obtain ⟨z3, ez3, h⟩ := stN_o h
    refine stM_i (cpI_i (by decide) g3 ez3 l32_1 l32_0 rfl) ?_
    obtain ⟨_, g4, h⟩ := bnd h
    refine bnd_i (bz_i g4 l32_0) ?_
    obtain ⟨z5, ez5, h⟩ := stN_o h
    refine stM_i (pI_i ez5 l32_0) ?_
    exact retv_i h
set_option maxRecDepth 20000 in
theorem i_P_append {Xx1 : Int32} {x0 : Nat} {x1 : Int} {z : MemI} {a0 : MemI} (h : di_P_append x0 x1 z = some a0) (hx1 : Xx1 = Int32.ofInt x1) : dn_P_append x0 Xx1 (EE z) = some (EE a0) := by
  subst hx1
  unfold di_P_append at h
  unfold dn_P_append
  obtain ⟨_, g1, h⟩ := bnd h
  by_cases hc2 : (6 : Int) ≤ (z.1 4 x0 9)
  · have h := ite_t h hc2
    refine ite_gt (le_i (x := (6 : Int)) (y := (z.1 4 x0 9)) (by decide) (rg_some g1) l32_6 rfl) hc2 ?_
    exact retv_i h
  · have h := ite_f h hc2
    refine ite_gf (le_i (x := (6 : Int)) (y := (z.1 4 x0 9)) (by decide) (rg_some g1) l32_6 rfl) hc2 ?_
    obtain ⟨j1, ej1, h⟩ := bnd h
    refine bnd_i (aix_i (by decide) ej1 rfl) ?_
    obtain ⟨z2, ez2, h⟩ := stN_o h
    refine stM_i (pI_i ez2 rfl) ?_
    obtain ⟨z3, ez3, h⟩ := stN_o h
    refine stM_i (pI_i ez3 (hAdd rfl l32_1)) ?_
    exact retv_i h
set_option maxRecDepth 20000 in
theorem i_P_takeFrom {Xx1 : Int32} {x0 : Nat} {x1 : Int} {z : MemI} {r0 : Int} {a0 : MemI} (h : di_P_takeFrom x0 x1 z = some (r0, a0)) (hx1 : Xx1 = Int32.ofInt x1) : dn_P_takeFrom x0 Xx1 (EE z) = some (Int32.ofInt r0, EE a0) := by
  subst hx1
  unfold di_P_takeFrom at h
  unfold dn_P_takeFrom
  obtain ⟨j1, ej1, h⟩ := bnd h
  refine bnd_i (aix_i (by decide) ej1 rfl) ?_
  obtain ⟨z2, ez2, h⟩ := stN_o h
  refine stM_i (pI_i ez2 (hSub rfl l32_1)) ?_
  obtain ⟨_, g1, h⟩ := bnd h
  refine bnd_i (acp_i (by decide) g1 (hAdd rfl l32_1) rfl (hSub rfl rfl)) ?_
  obtain ⟨z4, ez4, h⟩ := stN_o h
  refine stM_i (cpI_i (by decide) g1 ez4 (hAdd rfl l32_1) rfl (hSub rfl rfl)) ?_
  exact ret_i rfl h
set_option maxRecDepth 20000 in
theorem i_X_choose_2 {Kk62 : Nat → Int32 → Int32 → Nat → Mem → Option Mem} {k62 : Nat → Int → Int → Nat → MemI → Option MemI} {Kk152 : Mem → Option Mem} {k152 : MemI → Option MemI} {a0 : MemI}
    (hk62 : ∀ (Xy1 : Int32) (Xy2 : Int32) (y0 : Nat) (y1 : Int) (y2 : Int) (y3 : Nat) (y4 : MemI), k62 y0 y1 y2 y3 y4 = some a0 → Xy1 = Int32.ofInt y1 → Xy2 = Int32.ofInt y2 → Kk62 y0 Xy1 Xy2 y3 (EE y4) = some (EE a0))
    (hk152 : ∀ (y0 : MemI), k152 y0 = some a0 → Kk152 (EE y0) = some (EE a0)) :
    ∀ (n : Nat) {Xx2 : Int32} {x1 : Nat} {x2 : Int} {z : MemI}, di_X_choose_2 k62 k152 n x1 x2 z = some a0 → Xx2 = Int32.ofInt x2 → dn_X_choose_2 Kk62 Kk152 n x1 Xx2 (EE z) = some (EE a0) := by
  intro n
  induction n with
  | zero =>
    intro Xx2 x1 x2 z h hx2
    cases h
  | succ n ih =>
    intro Xx2 x1 x2 z h hx2
    subst hx2
    rw [di_X_choose_2] at h
    rw [dn_X_choose_2]
    obtain ⟨_, g1, h⟩ := bnd h
    by_cases hc2 : (54 : Int) ≤ x2
    · have h := ite_t h hc2
      refine ite_gt (le_i (x := (54 : Int)) (y := x2) (by decide) (rg_some g1) l32_54 rfl) hc2 ?_
      exact hk152 _ h 
    · have h := ite_f h hc2
      refine ite_gf (le_i (x := (54 : Int)) (y := x2) (by decide) (rg_some g1) l32_54 rfl) hc2 ?_
      obtain ⟨_, g3, h⟩ := bnd h
      by_cases hc4 : (z.1 4 x1 8) ≤ (0 : Int)
      · have h := ite_t h hc4
        refine ite_gt (le_i (x := (z.1 4 x1 8)) (y := (0 : Int)) (rg_some g3) (by decide) rfl l32_0) hc4 ?_
        exact hk152 _ h 
      · have h := ite_f h hc4
        refine ite_gf (le_i (x := (z.1 4 x1 8)) (y := (0 : Int)) (rg_some g3) (by decide) rfl l32_0) hc4 ?_
        obtain ⟨j1, ej1, h⟩ := bnd h
        refine bnd_i (aix_i (by decide) ej1 l32_0) ?_
        obtain ⟨z2, ez2, h⟩ := bnd h
        refine bnd_i (i_P_serveFirst ez2 ) ?_
        obtain ⟨⟨v3, z3⟩, er3, h⟩ := bnd h
        refine bnd_i (i_X_firstPlaceOf er3 rfl) ?_
        obtain ⟨j4, ej4, h⟩ := bnd h
        refine bnd_i (aix_i (by decide) ej4 rfl) ?_
        obtain ⟨j5, ej5, h⟩ := bnd h
        refine bnd_i (aix_i (by decide) ej5 rfl) ?_
        obtain ⟨j6, ej6, h⟩ := bnd h
        refine bnd_i (aix_i (by decide) ej6 rfl) ?_
        obtain ⟨_, g5, h⟩ := bnd h
        obtain ⟨_, g6, h⟩ := bnd h
        by_cases hc7 : (z3.1 7 x1 j6) < (z3.1 11 j5 4)
        · have h := ite_t h hc7
          refine ite_gt (lt_i (x := (z3.1 7 x1 j6)) (y := (z3.1 11 j5 4)) (rg_some g5) (rg_some g6) rfl rfl) hc7 ?_
          obtain ⟨z7, ez7, h⟩ := bnd h
          refine bnd_i (i_P_dropFirst ez7 ) ?_
          obtain ⟨z8, ez8, h⟩ := bnd h
          refine bnd_i (i_P_append ez8 rfl) ?_
          exact ih h (hAdd rfl l32_1)
        · have h := ite_f h hc7
          refine ite_gf (lt_i (x := (z3.1 7 x1 j6)) (y := (z3.1 11 j5 4)) (rg_some g5) (rg_some g6) rfl rfl) hc7 ?_
          exact hk62 _ _ _ _ _ _ _ h rfl rfl
set_option maxRecDepth 20000 in
theorem i_X_choose {x1 : Nat} {z : MemI} {a0 : MemI} (h : di_X_choose x1 z = some a0)  : dn_X_choose x1 (EE z) = some (EE a0) := by
  unfold di_X_choose at h
  unfold dn_X_choose
  refine i_X_choose_2 (fun Xx3 Xx4 x1 x3 x4 x5 z9 h hx3 hx4 => ?_) (fun z20 h  => ?_) FU h l32_0
  · subst hx3 hx4
    obtain ⟨j10, ej10, h⟩ := bnd h
    refine bnd_i (aix_i (by decide) ej10 rfl) ?_
    obtain ⟨j11, ej11, h⟩ := bnd h
    refine bnd_i (aix_i (by decide) ej11 rfl) ?_
    obtain ⟨z12, ez12, h⟩ := stN_o h
    refine stM_i (pI_i ez12 (hSub rfl rfl)) ?_
    obtain ⟨⟨v13, z13⟩, er13, h⟩ := bnd h
    refine bnd_i (i_P_takeFrom er13 rfl) ?_
    obtain ⟨z14, ez14, h⟩ := stN_o h
    refine stM_i (pI_i ez14 rfl) ?_
    obtain ⟨z15, ez15, h⟩ := bnd h
    refine bnd_i (i_A_set ez15 (hAdd l32_6 rfl) l32_2 (hAdd rfl (hMul rfl rfl))) ?_
    obtain ⟨⟨v16, z16⟩, er16, h⟩ := bnd h
    refine bnd_i (i_X_queuedOf er16 rfl) ?_
    obtain ⟨_, g1, h⟩ := bnd h
    by_cases hc2 : v16 = (0 : Int)
    · have h := ite_t h hc2
      refine ite_gt (eq_i (x := v16) (y := (0 : Int)) (rg_some g1) (by decide) rfl l32_0) hc2 ?_
      obtain ⟨z17, ez17, h⟩ := bnd h
      refine bnd_i (i_P_dropFirst ez17 ) ?_
      obtain ⟨j18, ej18, h⟩ := bnd h
      refine bnd_i (aix_i (by decide) ej18 rfl) ?_
      obtain ⟨z19, ez19, h⟩ := stN_o h
      refine stM_i (pI_i ez19 l32_0) ?_
      exact retv_i h
    · have h := ite_f h hc2
      refine ite_gf (eq_i (x := v16) (y := (0 : Int)) (rg_some g1) (by decide) rfl l32_0) hc2 ?_
      exact retv_i h
  · exact retv_i h
set_option maxRecDepth 20000 in
theorem i_X_put {Xx1 : Int32} {Xx2 : Int32} {x1 : Int} {x2 : Int} {z : MemI} {a0 : MemI} (h : di_X_put x1 x2 z = some a0) (hx1 : Xx1 = Int32.ofInt x1) (hx2 : Xx2 = Int32.ofInt x2) : dn_X_put Xx1 Xx2 (EE z) = some (EE a0) := by
  subst hx1 hx2
  unfold di_X_put at h
  unfold dn_X_put
  obtain ⟨_, g1, h⟩ := bnd h
  by_cases hc2 : x1 = (-1 : Int)
  · have h := ite_t h hc2
    refine ite_gt (eq_i (x := x1) (y := (-1 : Int)) (rg_some g1) (by decide) rfl l32_m1) hc2 ?_
    exact retv_i h
  · have h := ite_f h hc2
    refine ite_gf (eq_i (x := x1) (y := (-1 : Int)) (rg_some g1) (by decide) rfl l32_m1) hc2 ?_
    obtain ⟨j1, ej1, h⟩ := bnd h
    refine bnd_i (aix_i (by decide) ej1 rfl) ?_
    obtain ⟨⟨v2, z2⟩, er2, h⟩ := bnd h
    refine bnd_i (i_X_way er2 rfl rfl) ?_
    obtain ⟨_, g3, h⟩ := bnd h
    by_cases hc4 : v2 = (-1 : Int)
    · have h := ite_t h hc4
      refine ite_gt (eq_i (x := v2) (y := (-1 : Int)) (rg_some g3) (by decide) rfl l32_m1) hc4 ?_
      obtain ⟨_, g5, h⟩ := bnd h
      refine bnd_i (bz_i g5 l32_0) ?_
      obtain ⟨z4, ez4, h⟩ := stN_o h
      refine stM_i (pI_i ez4 l32_0) ?_
      obtain ⟨j5, ej5, h⟩ := bnd h
      refine bnd_i (aix_i (by decide) ej5 rfl) ?_
      obtain ⟨z6, ez6, h⟩ := stN_o h
      refine stM_i (pI_i ez6 (hAdd rfl l32_1)) ?_
      exact retv_i h
    · have h := ite_f h hc4
      refine ite_gf (eq_i (x := v2) (y := (-1 : Int)) (rg_some g3) (by decide) rfl l32_m1) hc4 ?_
      obtain ⟨j7, ej7, h⟩ := bnd h
      refine bnd_i (aix_i (by decide) ej7 rfl) ?_
      obtain ⟨j8, ej8, h⟩ := bnd h
      refine bnd_i (aix_i (by decide) ej8 rfl) ?_
      obtain ⟨_, g6, h⟩ := bnd h
      obtain ⟨_, g7, h⟩ := bnd h
      by_cases hc8 : (z2.1 4 j7 8) < (z2.1 4 j8 6)
      · have h := ite_t h hc8
        refine ite_gt (lt_i (x := (z2.1 4 j7 8)) (y := (z2.1 4 j8 6)) (rg_some g6) (rg_some g7) rfl rfl) hc8 ?_
        obtain ⟨j9, ej9, h⟩ := bnd h
        refine bnd_i (aix_i (by decide) ej9 rfl) ?_
        obtain ⟨z10, ez10, h⟩ := stN_o h
        refine stM_i (pI_i ez10 rfl) ?_
        obtain ⟨⟨v11, z11⟩, er11, h⟩ := bnd h
        refine bnd_i (i_X_queuedOf er11 rfl) ?_
        obtain ⟨_, g9, h⟩ := bnd h
        by_cases hc10 : v11 = (0 : Int)
        · have h := ite_t h hc10
          refine ite_gt (eq_i (x := v11) (y := (0 : Int)) (rg_some g9) (by decide) rfl l32_0) hc10 ?_
          obtain ⟨z16, ez16, h⟩ := bnd h
          refine bnd_i (i_P_append ez16 rfl) ?_
          obtain ⟨j17, ej17, h⟩ := bnd h
          refine bnd_i (aix_i (by decide) ej17 rfl) ?_
          obtain ⟨z18, ez18, h⟩ := stN_o h
          refine stM_i (pI_i ez18 rfl) ?_
          obtain ⟨z19, ez19, h⟩ := stN_o h
          refine stM_i (pI_i ez19 (hAdd rfl l32_1)) ?_
          obtain ⟨_, g11, h⟩ := bnd h
          by_cases hc12 : (z19.1 4 j9 7) = (-1 : Int)
          · have h := ite_t h hc12
            refine ite_gt (eq_i (x := (z19.1 4 j9 7)) (y := (-1 : Int)) (rg_some g11) (by decide) rfl l32_m1) hc12 ?_
            obtain ⟨z20, ez20, h⟩ := bnd h
            refine bnd_i (i_X_choose ez20 ) ?_
            exact retv_i h
          · have h := ite_f h hc12
            refine ite_gf (eq_i (x := (z19.1 4 j9 7)) (y := (-1 : Int)) (rg_some g11) (by decide) rfl l32_m1) hc12 ?_
            exact retv_i h
        · have h := ite_f h hc10
          refine ite_gf (eq_i (x := v11) (y := (0 : Int)) (rg_some g9) (by decide) rfl l32_0) hc10 ?_
          obtain ⟨j12, ej12, h⟩ := bnd h
          refine bnd_i (aix_i (by decide) ej12 rfl) ?_
          obtain ⟨z13, ez13, h⟩ := stN_o h
          refine stM_i (pI_i ez13 rfl) ?_
          obtain ⟨z14, ez14, h⟩ := stN_o h
          refine stM_i (pI_i ez14 (hAdd rfl l32_1)) ?_
          obtain ⟨_, g13, h⟩ := bnd h
          by_cases hc14 : (z14.1 4 j9 7) = (-1 : Int)
          · have h := ite_t h hc14
            refine ite_gt (eq_i (x := (z14.1 4 j9 7)) (y := (-1 : Int)) (rg_some g13) (by decide) rfl l32_m1) hc14 ?_
            obtain ⟨z15, ez15, h⟩ := bnd h
            refine bnd_i (i_X_choose ez15 ) ?_
            exact retv_i h
          · have h := ite_f h hc14
            refine ite_gf (eq_i (x := (z14.1 4 j9 7)) (y := (-1 : Int)) (rg_some g13) (by decide) rfl l32_m1) hc14 ?_
            exact retv_i h
      · have h := ite_f h hc8
        refine ite_gf (lt_i (x := (z2.1 4 j7 8)) (y := (z2.1 4 j8 6)) (rg_some g6) (rg_some g7) rfl rfl) hc8 ?_
        obtain ⟨_, g15, h⟩ := bnd h
        refine bnd_i (bz_i g15 l32_0) ?_
        obtain ⟨z22, ez22, h⟩ := stN_o h
        refine stM_i (pI_i ez22 l32_0) ?_
        obtain ⟨j23, ej23, h⟩ := bnd h
        refine bnd_i (aix_i (by decide) ej23 rfl) ?_
        obtain ⟨z24, ez24, h⟩ := stN_o h
        refine stM_i (pI_i ez24 (hAdd rfl l32_1)) ?_
        exact retv_i h
set_option maxRecDepth 20000 in
theorem i_X_setTimer {Xx1 : Int32} {x1 : Int} {z : MemI} {a0 : MemI} (h : di_X_setTimer x1 z = some a0) (hx1 : Xx1 = Int32.ofInt x1) : dn_X_setTimer Xx1 (EE z) = some (EE a0) := by
  subst hx1
  unfold di_X_setTimer at h
  unfold dn_X_setTimer
  obtain ⟨j1, ej1, h⟩ := bnd h
  refine bnd_i (aix_i (by decide) ej1 rfl) ?_
  obtain ⟨z2, ez2, h⟩ := bnd h
  refine bnd_i (i_A_set ez2 rfl l32_4 (hAdd rfl rfl)) ?_
  exact retv_i h
set_option maxRecDepth 20000 in
theorem i_X_fill_30 {Kk79 : Mem → Option Mem} {k79 : MemI → Option MemI} {a0 : MemI}
    (hk79 : ∀ (y0 : MemI), k79 y0 = some a0 → Kk79 (EE y0) = some (EE a0)) :
    ∀ (n : Nat) {Xx1 : Int32} {Xx3 : Int32} {Xx4 : Int32} {x1 : Int} {x2 : Nat} {x3 : Int} {x4 : Int} {z : MemI}, di_X_fill_30 k79 n x1 x2 x3 x4 z = some a0 → Xx1 = Int32.ofInt x1 → Xx3 = Int32.ofInt x3 → Xx4 = Int32.ofInt x4 → dn_X_fill_30 Kk79 n Xx1 x2 Xx3 Xx4 (EE z) = some (EE a0) := by
  intro n
  induction n with
  | zero =>
    intro Xx1 Xx3 Xx4 x1 x2 x3 x4 z h hx1 hx3 hx4
    cases h
  | succ n ih =>
    intro Xx1 Xx3 Xx4 x1 x2 x3 x4 z h hx1 hx3 hx4
    subst hx1 hx3 hx4
    rw [di_X_fill_30] at h
    rw [dn_X_fill_30]
    obtain ⟨_, g1, h⟩ := bnd h
    obtain ⟨_, g2, h⟩ := bnd h
    by_cases hc3 : x3 ≤ x4
    · have h := ite_t h hc3
      refine ite_gt (le_i (x := x3) (y := x4) (rg_some g1) (rg_some g2) rfl rfl) hc3 ?_
      exact hk79 _ h 
    · have h := ite_f h hc3
      refine ite_gf (le_i (x := x3) (y := x4) (rg_some g1) (rg_some g2) rfl rfl) hc3 ?_
      obtain ⟨⟨v3, z3⟩, er3, h⟩ := bnd h
      refine bnd_i (i_X_hasTimer er3 rfl) ?_
      obtain ⟨_, g4, h⟩ := bnd h
      by_cases hc5 : v3 = (0 : Int)
      · have h := ite_t h hc5
        refine ite_gt (eq_i (x := v3) (y := (0 : Int)) (rg_some g4) (by decide) rfl l32_0) hc5 ?_
        obtain ⟨z7, ez7, h⟩ := bnd h
        refine bnd_i (i_X_setTimer ez7 rfl) ?_
        obtain ⟨⟨v8, z8⟩, er8, h⟩ := bnd h
        refine bnd_i (i_X_make er8 rfl rfl l32_0) ?_
        obtain ⟨z9, ez9, h⟩ := bnd h
        refine bnd_i (i_X_put ez9 rfl rfl) ?_
        obtain ⟨z10, ez10, h⟩ := stN_o h
        refine stM_i (pI_i ez10 (hAdd rfl l32_1)) ?_
        exact ih h rfl rfl (hAdd rfl l32_1)
      · have h := ite_f h hc5
        refine ite_gf (eq_i (x := v3) (y := (0 : Int)) (rg_some g4) (by decide) rfl l32_0) hc5 ?_
        obtain ⟨⟨v4, z4⟩, er4, h⟩ := bnd h
        refine bnd_i (i_X_make er4 rfl rfl l32_0) ?_
        obtain ⟨z5, ez5, h⟩ := bnd h
        refine bnd_i (i_X_put ez5 rfl rfl) ?_
        obtain ⟨z6, ez6, h⟩ := stN_o h
        refine stM_i (pI_i ez6 (hAdd rfl l32_1)) ?_
        exact ih h rfl rfl (hAdd rfl l32_1)
set_option maxRecDepth 20000 in
theorem i_X_fill {Xx1 : Int32} {x1 : Int} {z : MemI} {a0 : MemI} (h : di_X_fill x1 z = some a0) (hx1 : Xx1 = Int32.ofInt x1) : dn_X_fill Xx1 (EE z) = some (EE a0) := by
  subst hx1
  unfold di_X_fill at h
  unfold dn_X_fill
  obtain ⟨j1, ej1, h⟩ := bnd h
  refine bnd_i (aix_i (by decide) ej1 rfl) ?_
  obtain ⟨v2, ev2, h⟩ := bnd h
  refine bnd_i (i_M_min ev2 (hAdd rfl rfl) rfl) ?_
  refine i_X_fill_30 (fun z11 h  => ?_) FU h rfl rfl rfl
  · exact retv_i h
set_option maxRecDepth 20000 in
theorem i_X_start {Xx1 : Int32} {x1 : Int} {z : MemI} {a0 : MemI} (h : di_X_start x1 z = some a0) (hx1 : Xx1 = Int32.ofInt x1) : dn_X_start Xx1 (EE z) = some (EE a0) := by
  subst hx1
  unfold di_X_start at h
  unfold dn_X_start
  obtain ⟨j1, ej1, h⟩ := bnd h
  refine bnd_i (aix_i (by decide) ej1 rfl) ?_
  obtain ⟨z2, ez2, h⟩ := bnd h
  refine bnd_i (i_X_remember ez2 l32_1 rfl rfl) ?_
  obtain ⟨z3, ez3, h⟩ := bnd h
  refine bnd_i (i_X_fill ez3 rfl) ?_
  exact retv_i h
set_option maxRecDepth 20000 in
theorem i_K_label {x0 : Nat} {z : MemI} {r0 : Int} {a0 : MemI} (h : di_K_label x0 z = some (r0, a0))  : dn_K_label x0 (EE z) = some (Int32.ofInt r0, EE a0) := by
  unfold di_K_label at h
  unfold dn_K_label
  obtain ⟨_, g1, h⟩ := bnd h
  by_cases hc2 : (z.1 11 x0 1) = (0 : Int)
  · have h := ite_t h hc2
    refine ite_gt (eq_i (x := (z.1 11 x0 1)) (y := (0 : Int)) (rg_some g1) (by decide) rfl l32_0) hc2 ?_
    exact ret_i rfl h
  · have h := ite_f h hc2
    refine ite_gf (eq_i (x := (z.1 11 x0 1)) (y := (0 : Int)) (rg_some g1) (by decide) rfl l32_0) hc2 ?_
    exact ret_i (hAdd rfl l32_128) h
set_option maxRecDepth 20000 in
theorem i_X_leave {Xx1 : Int32} {x1 : Int} {z : MemI} {a0 : MemI} (h : di_X_leave x1 z = some a0) (hx1 : Xx1 = Int32.ofInt x1) : dn_X_leave Xx1 (EE z) = some (EE a0) := by
  subst hx1
  unfold di_X_leave at h
  unfold dn_X_leave
  obtain ⟨j1, ej1, h⟩ := bnd h
  refine bnd_i (aix_i (by decide) ej1 rfl) ?_
  obtain ⟨j2, ej2, h⟩ := bnd h
  refine bnd_i (aix_i (by decide) ej2 rfl) ?_
  obtain ⟨⟨v3, z3⟩, er3, h⟩ := bnd h
  refine bnd_i (i_K_label er3 ) ?_
  obtain ⟨z4, ez4, h⟩ := bnd h
  refine bnd_i (i_X_remember ez4 l32_2 rfl rfl) ?_
  obtain ⟨z5, ez5, h⟩ := stN_o h
  refine stM_i (pI_i ez5 l32_m1) ?_
  obtain ⟨z6, ez6, h⟩ := bnd h
  refine bnd_i (i_A_set ez6 (hAdd l32_6 rfl) l32_3 (hAdd rfl rfl)) ?_
  obtain ⟨_, g1, h⟩ := bnd h
  by_cases hc2 : (z6.1 4 j2 8) ≤ (0 : Int)
  · have h := ite_t h hc2
    refine ite_gt (le_i (x := (z6.1 4 j2 8)) (y := (0 : Int)) (rg_some g1) (by decide) rfl l32_0) hc2 ?_
    exact retv_i h
  · have h := ite_f h hc2
    refine ite_gf (le_i (x := (z6.1 4 j2 8)) (y := (0 : Int)) (rg_some g1) (by decide) rfl l32_0) hc2 ?_
    obtain ⟨z7, ez7, h⟩ := bnd h
    refine bnd_i (i_X_choose ez7 ) ?_
    exact retv_i h
set_option maxRecDepth 20000 in
theorem i_M_max {Xx0 : Int32} {Xx1 : Int32} {x0 : Int} {x1 : Int} {r0 : Int} (h : di_M_max x0 x1 = some r0) (hx0 : Xx0 = Int32.ofInt x0) (hx1 : Xx1 = Int32.ofInt x1) : dn_M_max Xx0 Xx1 = some (Int32.ofInt r0) := by
  subst hx0 hx1
  unfold di_M_max at h
  unfold dn_M_max
  obtain ⟨_, g1, h⟩ := bnd h
  obtain ⟨_, g2, h⟩ := bnd h
  by_cases hc3 : x0 < x1
  · have h := ite_t h hc3
    refine ite_gt (lt_i (x := x0) (y := x1) (rg_some g1) (rg_some g2) rfl rfl) hc3 ?_
    exact retp_i rfl h
  · have h := ite_f h hc3
    refine ite_gf (lt_i (x := x0) (y := x1) (rg_some g1) (rg_some g2) rfl rfl) hc3 ?_
    exact retp_i rfl h
set_option maxRecDepth 20000 in
theorem i_X_moveBase {Xx1 : Int32} {Xx2 : Int32} {x1 : Int} {x2 : Int} {z : MemI} {a0 : MemI} (h : di_X_moveBase x1 x2 z = some a0) (hx1 : Xx1 = Int32.ofInt x1) (hx2 : Xx2 = Int32.ofInt x2) : dn_X_moveBase Xx1 Xx2 (EE z) = some (EE a0) := by
  subst hx1 hx2
  unfold di_X_moveBase at h
  unfold dn_X_moveBase
  obtain ⟨j1, ej1, h⟩ := bnd h
  refine bnd_i (aix_i (by decide) ej1 rfl) ?_
  obtain ⟨z2, ez2, h⟩ := stN_o h
  refine stM_i (pI_i ez2 rfl) ?_
  obtain ⟨v3, ev3, h⟩ := bnd h
  refine bnd_i (i_M_max ev3 rfl rfl) ?_
  obtain ⟨z4, ez4, h⟩ := stN_o h
  refine stM_i (pI_i ez4 rfl) ?_
  obtain ⟨z5, ez5, h⟩ := bnd h
  refine bnd_i (i_A_unset ez5 rfl) ?_
  obtain ⟨_, g1, h⟩ := bnd h
  obtain ⟨_, g2, h⟩ := bnd h
  by_cases hc3 : (z5.1 9 j1 8) ≤ (z5.1 9 j1 7)
  · have h := ite_t h hc3
    refine ite_gt (le_i (x := (z5.1 9 j1 8)) (y := (z5.1 9 j1 7)) (rg_some g1) (rg_some g2) rfl rfl) hc3 ?_
    exact retv_i h
  · have h := ite_f h hc3
    refine ite_gf (le_i (x := (z5.1 9 j1 8)) (y := (z5.1 9 j1 7)) (rg_some g1) (rg_some g2) rfl rfl) hc3 ?_
    obtain ⟨z6, ez6, h⟩ := bnd h
    refine bnd_i (i_X_setTimer ez6 rfl) ?_
    exact retv_i h
set_option maxRecDepth 20000 in
theorem i_X_takeData {Xx1 : Int32} {Xx2 : Int32} {x1 : Int} {x2 : Int} {z : MemI} {a0 : MemI} (h : di_X_takeData x1 x2 z = some a0) (hx1 : Xx1 = Int32.ofInt x1) (hx2 : Xx2 = Int32.ofInt x2) : dn_X_takeData Xx1 Xx2 (EE z) = some (EE a0) := by
  subst hx1 hx2
  unfold di_X_takeData at h
  unfold dn_X_takeData
  obtain ⟨j1, ej1, h⟩ := bnd h
  refine bnd_i (aix_i (by decide) ej1 rfl) ?_
  obtain ⟨_, g1, h⟩ := bnd h
  obtain ⟨_, g2, h⟩ := bnd h
  by_cases hc3 : x2 = (z.1 9 j1 9)
  · have h := ite_t h hc3
    refine ite_gt (eq_i (x := x2) (y := (z.1 9 j1 9)) (rg_some g1) (rg_some g2) rfl rfl) hc3 ?_
    obtain ⟨z4, ez4, h⟩ := stN_o h
    refine stM_i (pI_i ez4 (hAdd rfl l32_1)) ?_
    obtain ⟨⟨v5, z5⟩, er5, h⟩ := bnd h
    refine bnd_i (i_X_make er5 rfl rfl l32_1) ?_
    obtain ⟨z6, ez6, h⟩ := bnd h
    refine bnd_i (i_X_put ez6 rfl rfl) ?_
    exact retv_i h
  · have h := ite_f h hc3
    refine ite_gf (eq_i (x := x2) (y := (z.1 9 j1 9)) (rg_some g1) (rg_some g2) rfl rfl) hc3 ?_
    obtain ⟨⟨v2, z2⟩, er2, h⟩ := bnd h
    refine bnd_i (i_X_make er2 rfl rfl l32_1) ?_
    obtain ⟨z3, ez3, h⟩ := bnd h
    refine bnd_i (i_X_put ez3 rfl rfl) ?_
    exact retv_i h
set_option maxRecDepth 20000 in
theorem i_X_arrive {Xx1 : Int32} {x1 : Int} {z : MemI} {a0 : MemI} (h : di_X_arrive x1 z = some a0) (hx1 : Xx1 = Int32.ofInt x1) : dn_X_arrive Xx1 (EE z) = some (EE a0) := by
  subst hx1
  unfold di_X_arrive at h
  unfold dn_X_arrive
  obtain ⟨j1, ej1, h⟩ := bnd h
  refine bnd_i (aix_i (by decide) ej1 rfl) ?_
  obtain ⟨j2, ej2, h⟩ := bnd h
  refine bnd_i (aix_i (by decide) ej2 rfl) ?_
  obtain ⟨⟨v3, z3⟩, er3, h⟩ := bnd h
  refine bnd_i (i_K_label er3 ) ?_
  obtain ⟨z4, ez4, h⟩ := bnd h
  refine bnd_i (i_X_remember ez4 l32_3 rfl rfl) ?_
  obtain ⟨_, g1, h⟩ := bnd h
  obtain ⟨_, g2, h⟩ := bnd h
  by_cases hc3 : (z.1 4 j2 1) = (z4.1 11 j1 5)
  · have h := ite_t h hc3
    refine ite_gt (eq_i (x := (z.1 4 j2 1)) (y := (z4.1 11 j1 5)) (rg_some g1) (rg_some g2) rfl rfl) hc3 ?_
    obtain ⟨_, g4, h⟩ := bnd h
    refine bnd_i (bz_i g4 l32_0) ?_
    obtain ⟨z6, ez6, h⟩ := stN_o h
    refine stM_i (pI_i ez6 l32_0) ?_
    obtain ⟨j7, ej7, h⟩ := bnd h
    refine bnd_i (aix_i (by decide) ej7 rfl) ?_
    obtain ⟨z8, ez8, h⟩ := stN_o h
    refine stM_i (pI_i ez8 (hAdd rfl l32_1)) ?_
    obtain ⟨_, g5, h⟩ := bnd h
    by_cases hc6 : (z8.1 11 j1 1) = (0 : Int)
    · have h := ite_t h hc6
      refine ite_gt (eq_i (x := (z8.1 11 j1 1)) (y := (0 : Int)) (rg_some g5) (by decide) rfl l32_0) hc6 ?_
      obtain ⟨z12, ez12, h⟩ := bnd h
      refine bnd_i (i_X_takeData ez12 rfl rfl) ?_
      exact retv_i h
    · have h := ite_f h hc6
      refine ite_gf (eq_i (x := (z8.1 11 j1 1)) (y := (0 : Int)) (rg_some g5) (by decide) rfl l32_0) hc6 ?_
      obtain ⟨j9, ej9, h⟩ := bnd h
      refine bnd_i (aix_i (by decide) ej9 rfl) ?_
      obtain ⟨_, g7, h⟩ := bnd h
      obtain ⟨_, g8, h⟩ := bnd h
      by_cases hc9 : (z8.1 11 j1 3) ≤ (z8.1 9 j9 7)
      · have h := ite_t h hc9
        refine ite_gt (le_i (x := (z8.1 11 j1 3)) (y := (z8.1 9 j9 7)) (rg_some g7) (rg_some g8) rfl rfl) hc9 ?_
        exact retv_i h
      · have h := ite_f h hc9
        refine ite_gf (le_i (x := (z8.1 11 j1 3)) (y := (z8.1 9 j9 7)) (rg_some g7) (rg_some g8) rfl rfl) hc9 ?_
        obtain ⟨z10, ez10, h⟩ := bnd h
        refine bnd_i (i_X_moveBase ez10 rfl rfl) ?_
        obtain ⟨z11, ez11, h⟩ := bnd h
        refine bnd_i (i_X_fill ez11 rfl) ?_
        exact retv_i h
  · have h := ite_f h hc3
    refine ite_gf (eq_i (x := (z.1 4 j2 1)) (y := (z4.1 11 j1 5)) (rg_some g1) (rg_some g2) rfl rfl) hc3 ?_
    obtain ⟨z13, ez13, h⟩ := bnd h
    refine bnd_i (i_X_put ez13 rfl rfl) ?_
    exact retv_i h
set_option maxRecDepth 20000 in
theorem i_X_timeOut {Xx1 : Int32} {x1 : Int} {z : MemI} {a0 : MemI} (h : di_X_timeOut x1 z = some a0) (hx1 : Xx1 = Int32.ofInt x1) : dn_X_timeOut Xx1 (EE z) = some (EE a0) := by
  subst hx1
  unfold di_X_timeOut at h
  unfold dn_X_timeOut
  obtain ⟨j1, ej1, h⟩ := bnd h
  refine bnd_i (aix_i (by decide) ej1 rfl) ?_
  obtain ⟨z2, ez2, h⟩ := bnd h
  refine bnd_i (i_X_remember ez2 l32_4 rfl rfl) ?_
  obtain ⟨z3, ez3, h⟩ := stN_o h
  refine stM_i (pI_i ez3 (hAdd rfl l32_1)) ?_
  obtain ⟨z4, ez4, h⟩ := stN_o h
  refine stM_i (pI_i ez4 rfl) ?_
  obtain ⟨z5, ez5, h⟩ := bnd h
  refine bnd_i (i_X_fill ez5 rfl) ?_
  exact retv_i h
set_option maxRecDepth 20000 in
theorem i_X_happen {z : MemI} {r0 : Int} {a0 : MemI} (h : di_X_happen z = some (r0, a0))  : dn_X_happen (EE z) = some (Int32.ofInt r0, EE a0) := by
  unfold di_X_happen at h
  unfold dn_X_happen
  obtain ⟨⟨v1, z1⟩, er1, h⟩ := bnd h
  refine bnd_i (i_A_firstSlot er1 ) ?_
  obtain ⟨_, g1, h⟩ := bnd h
  by_cases hc2 : v1 = (-1 : Int)
  · have h := ite_t h hc2
    refine ite_gt (eq_i (x := v1) (y := (-1 : Int)) (rg_some g1) (by decide) rfl l32_m1) hc2 ?_
    obtain ⟨_, g3, h⟩ := bnd h
    refine bnd_i (bz_i g3 l32_0) ?_
    exact ret_i l32_0 h
  · have h := ite_f h hc2
    refine ite_gf (eq_i (x := v1) (y := (-1 : Int)) (rg_some g1) (by decide) rfl l32_m1) hc2 ?_
    obtain ⟨j2, ej2, h⟩ := bnd h
    refine bnd_i (aix_i (by decide) ej2 rfl) ?_
    obtain ⟨z3, ez3, h⟩ := stN_o h
    refine stM_i (pI_i ez3 rfl) ?_
    obtain ⟨j4, ej4, h⟩ := bnd h
    refine bnd_i (aix_i (by decide) ej4 rfl) ?_
    obtain ⟨z5, ez5, h⟩ := bnd h
    refine bnd_i (i_A_unset ez5 rfl) ?_
    obtain ⟨_, g4, h⟩ := bnd h
    by_cases hc5 : (z3.1 13 0 j4) = (1 : Int)
    · have h := ite_t h hc5
      refine ite_gt (eq_i (x := (z3.1 13 0 j4)) (y := (1 : Int)) (rg_some g4) (by decide) rfl l32_1) hc5 ?_
      obtain ⟨z6, ez6, h⟩ := bnd h
      refine bnd_i (i_X_start ez6 rfl) ?_
      obtain ⟨_, g6, h⟩ := bnd h
      refine bnd_i (bz_i g6 l32_1) ?_
      exact ret_i l32_1 h
    · have h := ite_f h hc5
      refine ite_gf (eq_i (x := (z3.1 13 0 j4)) (y := (1 : Int)) (rg_some g4) (by decide) rfl l32_1) hc5 ?_
      by_cases hc7 : (z3.1 13 0 j4) = (2 : Int)
      · have h := ite_t h hc7
        refine ite_gt (eq_i (x := (z3.1 13 0 j4)) (y := (2 : Int)) (rg_some g4) (by decide) rfl l32_2) hc7 ?_
        obtain ⟨z8, ez8, h⟩ := bnd h
        refine bnd_i (i_X_leave ez8 (hSub rfl l32_6)) ?_
        obtain ⟨_, g8, h⟩ := bnd h
        refine bnd_i (bz_i g8 l32_1) ?_
        exact ret_i l32_1 h
      · have h := ite_f h hc7
        refine ite_gf (eq_i (x := (z3.1 13 0 j4)) (y := (2 : Int)) (rg_some g4) (by decide) rfl l32_2) hc7 ?_
        by_cases hc9 : (z3.1 13 0 j4) = (3 : Int)
        · have h := ite_t h hc9
          refine ite_gt (eq_i (x := (z3.1 13 0 j4)) (y := (3 : Int)) (rg_some g4) (by decide) rfl l32_3) hc9 ?_
          obtain ⟨z10, ez10, h⟩ := bnd h
          refine bnd_i (i_X_arrive ez10 (hSub rfl l32_6)) ?_
          obtain ⟨_, g10, h⟩ := bnd h
          refine bnd_i (bz_i g10 l32_1) ?_
          exact ret_i l32_1 h
        · have h := ite_f h hc9
          refine ite_gf (eq_i (x := (z3.1 13 0 j4)) (y := (3 : Int)) (rg_some g4) (by decide) rfl l32_3) hc9 ?_
          obtain ⟨z12, ez12, h⟩ := bnd h
          refine bnd_i (i_X_timeOut ez12 rfl) ?_
          obtain ⟨_, g11, h⟩ := bnd h
          refine bnd_i (bz_i g11 l32_1) ?_
          exact ret_i l32_1 h
set_option maxRecDepth 20000 in
theorem i_X_step {z : MemI} {r0 : Int} {a0 : MemI} (h : di_X_step z = some (r0, a0))  : dn_X_step (EE z) = some (Int32.ofInt r0, EE a0) := by
  unfold di_X_step at h
  unfold dn_X_step
  obtain ⟨z1, ez1, h⟩ := bnd h
  refine bnd_i (i_X_begin ez1 ) ?_
  obtain ⟨⟨v2, z2⟩, er2, h⟩ := bnd h
  refine bnd_i (i_X_happen er2 ) ?_
  obtain ⟨_, g1, h⟩ := bnd h
  refine bnd_i (bz_i g1 rfl) ?_
  exact ret_i rfl h
set_option maxRecDepth 20000 in
theorem i_X_run_22 {Kk40 : Int32 → Mem → Option (Int32 × Mem)} {k40 : Int → MemI → Option (Int × MemI)} {r0 : Int} {a0 : MemI}
    (hk40 : ∀ (Xy0 : Int32) (y0 : Int) (y1 : MemI), k40 y0 y1 = some (r0, a0) → Xy0 = Int32.ofInt y0 → Kk40 Xy0 (EE y1) = some (Int32.ofInt r0, EE a0)) :
    ∀ (n : Nat) {Xx1 : Int32} {Xx2 : Int32} {x1 : Int} {x2 : Int} {z : MemI}, di_X_run_22 k40 n x1 x2 z = some (r0, a0) → Xx1 = Int32.ofInt x1 → Xx2 = Int32.ofInt x2 → dn_X_run_22 Kk40 n Xx1 Xx2 (EE z) = some (Int32.ofInt r0, EE a0) := by
  intro n
  induction n with
  | zero =>
    intro Xx1 Xx2 x1 x2 z h hx1 hx2
    cases h
  | succ n ih =>
    intro Xx1 Xx2 x1 x2 z h hx1 hx2
    subst hx1 hx2
    rw [di_X_run_22] at h
    rw [dn_X_run_22]
    obtain ⟨_, g1, h⟩ := bnd h
    obtain ⟨_, g2, h⟩ := bnd h
    by_cases hc3 : x1 ≤ x2
    · have h := ite_t h hc3
      refine ite_gt (le_i (x := x1) (y := x2) (rg_some g1) (rg_some g2) rfl rfl) hc3 ?_
      exact hk40 _ _ _ h rfl
    · have h := ite_f h hc3
      refine ite_gf (le_i (x := x1) (y := x2) (rg_some g1) (rg_some g2) rfl rfl) hc3 ?_
      obtain ⟨⟨v2, z2⟩, er2, h⟩ := bnd h
      refine bnd_i (i_X_happen er2 ) ?_
      obtain ⟨_, g4, h⟩ := bnd h
      by_cases hc5 : v2 = (0 : Int)
      · have h := ite_t h hc5
        refine ite_gt (eq_i (x := v2) (y := (0 : Int)) (rg_some g4) (by decide) rfl l32_0) hc5 ?_
        exact hk40 _ _ _ h rfl
      · have h := ite_f h hc5
        refine ite_gf (eq_i (x := v2) (y := (0 : Int)) (rg_some g4) (by decide) rfl l32_0) hc5 ?_
        exact ih h rfl (hAdd rfl l32_1)
set_option maxRecDepth 20000 in
theorem i_X_run {Xx1 : Int32} {x1 : Int} {z : MemI} {r0 : Int} {a0 : MemI} (h : di_X_run x1 z = some (r0, a0)) (hx1 : Xx1 = Int32.ofInt x1) : dn_X_run Xx1 (EE z) = some (Int32.ofInt r0, EE a0) := by
  subst hx1
  unfold di_X_run at h
  unfold dn_X_run
  obtain ⟨v1, ev1, h⟩ := bnd h
  refine bnd_i (i_X_isWithin ev1 rfl l32_0 l32_50) ?_
  obtain ⟨_, g1, h⟩ := bnd h
  by_cases hc2 : v1 = (0 : Int)
  · have h := ite_t h hc2
    refine ite_gt (eq_i (x := v1) (y := (0 : Int)) (rg_some g1) (by decide) rfl l32_0) hc2 ?_
    exact ret_i l32_m1 h
  · have h := ite_f h hc2
    refine ite_gf (eq_i (x := v1) (y := (0 : Int)) (rg_some g1) (by decide) rfl l32_0) hc2 ?_
    obtain ⟨_, g3, h⟩ := bnd h
    by_cases hc4 : x1 ≤ (0 : Int)
    · have h := ite_t h hc4
      refine ite_gt (le_i (x := x1) (y := (0 : Int)) (rg_some g3) (by decide) rfl l32_0) hc4 ?_
      refine i_X_run_22 (fun Xx2 x2 z3 h hx2 => ?_) FU h rfl l32_0
      · subst hx2
        exact ret_i rfl h
    · have h := ite_f h hc4
      refine ite_gf (le_i (x := x1) (y := (0 : Int)) (rg_some g3) (by decide) rfl l32_0) hc4 ?_
      obtain ⟨z4, ez4, h⟩ := bnd h
      refine bnd_i (i_X_begin ez4 ) ?_
      refine i_X_run_22 (fun Xx2 x2 z5 h hx2 => ?_) FU h rfl l32_0
      · subst hx2
        exact ret_i rfl h
set_option maxRecDepth 20000 in
theorem i_X_now {z : MemI} {r0 : Int} {a0 : MemI} (h : di_X_now z = some (r0, a0))  : dn_X_now (EE z) = some (Int32.ofInt r0, EE a0) := by
  unfold di_X_now at h
  unfold dn_X_now
  exact ret_i rfl h
set_option maxRecDepth 20000 in
theorem i_X_trace {Xx1 : Int32} {x1 : Int} {z : MemI} {r0 : Int} {a0 : MemI} (h : di_X_trace x1 z = some (r0, a0)) (hx1 : Xx1 = Int32.ofInt x1) : dn_X_trace Xx1 (EE z) = some (Int64.ofInt r0, EE a0) := by
  subst hx1
  unfold di_X_trace at h
  unfold dn_X_trace
  obtain ⟨v1, ev1, h⟩ := bnd h
  refine bnd_i (i_X_isWithin ev1 rfl l32_0 l32_15) ?_
  obtain ⟨_, g1, h⟩ := bnd h
  by_cases hc2 : v1 = (0 : Int)
  · have h := ite_t h hc2
    refine ite_gt (eq_i (x := v1) (y := (0 : Int)) (rg_some g1) (by decide) rfl l32_0) hc2 ?_
    exact retj_i l64_m1 h
  · have h := ite_f h hc2
    refine ite_gf (eq_i (x := v1) (y := (0 : Int)) (rg_some g1) (by decide) rfl l32_0) hc2 ?_
    obtain ⟨j2, ej2, h⟩ := bnd h
    refine bnd_i (aix_i (by decide) ej2 rfl) ?_
    exact retj_i rfl h
set_option maxRecDepth 20000 in
theorem i_X_distance {Xx1 : Int32} {Xx2 : Int32} {x1 : Int} {x2 : Int} {z : MemI} {r0 : Int} {a0 : MemI} (h : di_X_distance x1 x2 z = some (r0, a0)) (hx1 : Xx1 = Int32.ofInt x1) (hx2 : Xx2 = Int32.ofInt x2) : dn_X_distance Xx1 Xx2 (EE z) = some (Int32.ofInt r0, EE a0) := by
  subst hx1 hx2
  unfold di_X_distance at h
  unfold dn_X_distance
  obtain ⟨v1, ev1, h⟩ := bnd h
  refine bnd_i (i_X_isNode ev1 rfl) ?_
  obtain ⟨_, g1, h⟩ := bnd h
  by_cases hc2 : v1 = (0 : Int)
  · have h := ite_t h hc2
    refine ite_gt (eq_i (x := v1) (y := (0 : Int)) (rg_some g1) (by decide) rfl l32_0) hc2 ?_
    exact ret_i l32_m1 h
  · have h := ite_f h hc2
    refine ite_gf (eq_i (x := v1) (y := (0 : Int)) (rg_some g1) (by decide) rfl l32_0) hc2 ?_
    obtain ⟨v2, ev2, h⟩ := bnd h
    refine bnd_i (i_X_isNode ev2 rfl) ?_
    obtain ⟨_, g3, h⟩ := bnd h
    by_cases hc4 : v2 = (0 : Int)
    · have h := ite_t h hc4
      refine ite_gt (eq_i (x := v2) (y := (0 : Int)) (rg_some g3) (by decide) rfl l32_0) hc4 ?_
      exact ret_i l32_m1 h
    · have h := ite_f h hc4
      refine ite_gf (eq_i (x := v2) (y := (0 : Int)) (rg_some g3) (by decide) rfl l32_0) hc4 ?_
      obtain ⟨j3, ej3, h⟩ := bnd h
      refine bnd_i (aix_i (by decide) ej3 rfl) ?_
      obtain ⟨j4, ej4, h⟩ := bnd h
      refine bnd_i (aix_i (by decide) ej4 rfl) ?_
      exact ret_i rfl h
set_option maxRecDepth 20000 in
theorem i_X_waiting {Xx1 : Int32} {Xx2 : Int32} {x1 : Int} {x2 : Int} {z : MemI} {r0 : Int} {a0 : MemI} (h : di_X_waiting x1 x2 z = some (r0, a0)) (hx1 : Xx1 = Int32.ofInt x1) (hx2 : Xx2 = Int32.ofInt x2) : dn_X_waiting Xx1 Xx2 (EE z) = some (Int32.ofInt r0, EE a0) := by
  subst hx1 hx2
  unfold di_X_waiting at h
  unfold dn_X_waiting
  obtain ⟨⟨v1, z1⟩, er1, h⟩ := bnd h
  refine bnd_i (i_X_isPort er1 rfl) ?_
  obtain ⟨_, g1, h⟩ := bnd h
  by_cases hc2 : v1 = (0 : Int)
  · have h := ite_t h hc2
    refine ite_gt (eq_i (x := v1) (y := (0 : Int)) (rg_some g1) (by decide) rfl l32_0) hc2 ?_
    exact ret_i l32_m1 h
  · have h := ite_f h hc2
    refine ite_gf (eq_i (x := v1) (y := (0 : Int)) (rg_some g1) (by decide) rfl l32_0) hc2 ?_
    obtain ⟨_, g3, h⟩ := bnd h
    by_cases hc4 : x2 = (-1 : Int)
    · have h := ite_t h hc4
      refine ite_gt (eq_i (x := x2) (y := (-1 : Int)) (rg_some g3) (by decide) rfl l32_m1) hc4 ?_
      obtain ⟨j5, ej5, h⟩ := bnd h
      refine bnd_i (aix_i (by decide) ej5 rfl) ?_
      exact ret_i rfl h
    · have h := ite_f h hc4
      refine ite_gf (eq_i (x := x2) (y := (-1 : Int)) (rg_some g3) (by decide) rfl l32_m1) hc4 ?_
      obtain ⟨⟨v2, z2⟩, er2, h⟩ := bnd h
      refine bnd_i (i_X_isFlow er2 rfl) ?_
      obtain ⟨_, g5, h⟩ := bnd h
      by_cases hc6 : v2 = (0 : Int)
      · have h := ite_t h hc6
        refine ite_gt (eq_i (x := v2) (y := (0 : Int)) (rg_some g5) (by decide) rfl l32_0) hc6 ?_
        exact ret_i l32_m1 h
      · have h := ite_f h hc6
        refine ite_gf (eq_i (x := v2) (y := (0 : Int)) (rg_some g5) (by decide) rfl l32_0) hc6 ?_
        obtain ⟨j3, ej3, h⟩ := bnd h
        refine bnd_i (aix_i (by decide) ej3 rfl) ?_
        obtain ⟨⟨v4, z4⟩, er4, h⟩ := bnd h
        refine bnd_i (i_X_queuedOf er4 rfl) ?_
        exact ret_i rfl h
set_option maxRecDepth 20000 in
theorem i_X_deficit {Xx1 : Int32} {Xx2 : Int32} {x1 : Int} {x2 : Int} {z : MemI} {r0 : Int} {a0 : MemI} (h : di_X_deficit x1 x2 z = some (r0, a0)) (hx1 : Xx1 = Int32.ofInt x1) (hx2 : Xx2 = Int32.ofInt x2) : dn_X_deficit Xx1 Xx2 (EE z) = some (Int32.ofInt r0, EE a0) := by
  subst hx1 hx2
  unfold di_X_deficit at h
  unfold dn_X_deficit
  obtain ⟨⟨v1, z1⟩, er1, h⟩ := bnd h
  refine bnd_i (i_X_isPort er1 rfl) ?_
  obtain ⟨_, g1, h⟩ := bnd h
  by_cases hc2 : v1 = (0 : Int)
  · have h := ite_t h hc2
    refine ite_gt (eq_i (x := v1) (y := (0 : Int)) (rg_some g1) (by decide) rfl l32_0) hc2 ?_
    exact ret_i l32_m1 h
  · have h := ite_f h hc2
    refine ite_gf (eq_i (x := v1) (y := (0 : Int)) (rg_some g1) (by decide) rfl l32_0) hc2 ?_
    obtain ⟨⟨v2, z2⟩, er2, h⟩ := bnd h
    refine bnd_i (i_X_isFlow er2 rfl) ?_
    obtain ⟨_, g3, h⟩ := bnd h
    by_cases hc4 : v2 = (0 : Int)
    · have h := ite_t h hc4
      refine ite_gt (eq_i (x := v2) (y := (0 : Int)) (rg_some g3) (by decide) rfl l32_0) hc4 ?_
      exact ret_i l32_m1 h
    · have h := ite_f h hc4
      refine ite_gf (eq_i (x := v2) (y := (0 : Int)) (rg_some g3) (by decide) rfl l32_0) hc4 ?_
      obtain ⟨j3, ej3, h⟩ := bnd h
      refine bnd_i (aix_i (by decide) ej3 rfl) ?_
      obtain ⟨j4, ej4, h⟩ := bnd h
      refine bnd_i (aix_i (by decide) ej4 rfl) ?_
      exact ret_i rfl h
set_option maxRecDepth 20000 in
theorem i_X_onPort {Xx1 : Int32} {x1 : Int} {z : MemI} {r0 : Int} {a0 : MemI} (h : di_X_onPort x1 z = some (r0, a0)) (hx1 : Xx1 = Int32.ofInt x1) : dn_X_onPort Xx1 (EE z) = some (Int32.ofInt r0, EE a0) := by
  subst hx1
  unfold di_X_onPort at h
  unfold dn_X_onPort
  obtain ⟨⟨v1, z1⟩, er1, h⟩ := bnd h
  refine bnd_i (i_X_isPort er1 rfl) ?_
  obtain ⟨_, g1, h⟩ := bnd h
  by_cases hc2 : v1 = (0 : Int)
  · have h := ite_t h hc2
    refine ite_gt (eq_i (x := v1) (y := (0 : Int)) (rg_some g1) (by decide) rfl l32_0) hc2 ?_
    exact ret_i l32_m1 h
  · have h := ite_f h hc2
    refine ite_gf (eq_i (x := v1) (y := (0 : Int)) (rg_some g1) (by decide) rfl l32_0) hc2 ?_
    obtain ⟨j2, ej2, h⟩ := bnd h
    refine bnd_i (aix_i (by decide) ej2 rfl) ?_
    obtain ⟨_, g3, h⟩ := bnd h
    by_cases hc4 : (z1.1 4 j2 7) = (-1 : Int)
    · have h := ite_t h hc4
      refine ite_gt (eq_i (x := (z1.1 4 j2 7)) (y := (-1 : Int)) (rg_some g3) (by decide) rfl l32_m1) hc4 ?_
      exact ret_i l32_m1 h
    · have h := ite_f h hc4
      refine ite_gf (eq_i (x := (z1.1 4 j2 7)) (y := (-1 : Int)) (rg_some g3) (by decide) rfl l32_m1) hc4 ?_
      obtain ⟨j3, ej3, h⟩ := bnd h
      refine bnd_i (aix_i (by decide) ej3 rfl) ?_
      obtain ⟨j4, ej4, h⟩ := bnd h
      refine bnd_i (aix_i (by decide) ej4 rfl) ?_
      obtain ⟨⟨v5, z5⟩, er5, h⟩ := bnd h
      refine bnd_i (i_K_label er5 ) ?_
      exact ret_i (hAdd (hMul l32_256 rfl) rfl) h
set_option maxRecDepth 20000 in
theorem i_X_timer {Xx1 : Int32} {x1 : Int} {z : MemI} {r0 : Int} {a0 : MemI} (h : di_X_timer x1 z = some (r0, a0)) (hx1 : Xx1 = Int32.ofInt x1) : dn_X_timer Xx1 (EE z) = some (Int32.ofInt r0, EE a0) := by
  subst hx1
  unfold di_X_timer at h
  unfold dn_X_timer
  obtain ⟨⟨v1, z1⟩, er1, h⟩ := bnd h
  refine bnd_i (i_X_isFlow er1 rfl) ?_
  obtain ⟨_, g1, h⟩ := bnd h
  by_cases hc2 : v1 = (0 : Int)
  · have h := ite_t h hc2
    refine ite_gt (eq_i (x := v1) (y := (0 : Int)) (rg_some g1) (by decide) rfl l32_0) hc2 ?_
    exact ret_i l32_m1 h
  · have h := ite_f h hc2
    refine ite_gf (eq_i (x := v1) (y := (0 : Int)) (rg_some g1) (by decide) rfl l32_0) hc2 ?_
    obtain ⟨⟨v2, z2⟩, er2, h⟩ := bnd h
    refine bnd_i (i_X_hasTimer er2 rfl) ?_
    obtain ⟨_, g3, h⟩ := bnd h
    by_cases hc4 : v2 = (0 : Int)
    · have h := ite_t h hc4
      refine ite_gt (eq_i (x := v2) (y := (0 : Int)) (rg_some g3) (by decide) rfl l32_0) hc4 ?_
      exact ret_i l32_m1 h
    · have h := ite_f h hc4
      refine ite_gf (eq_i (x := v2) (y := (0 : Int)) (rg_some g3) (by decide) rfl l32_0) hc4 ?_
      obtain ⟨j3, ej3, h⟩ := bnd h
      refine bnd_i (aix_i (by decide) ej3 rfl) ?_
      exact ret_i rfl h
set_option maxRecDepth 20000 in
theorem i_X_count {Xx1 : Int32} {Xx2 : Int32} {x1 : Int} {x2 : Int} {z : MemI} {r0 : Int} {a0 : MemI} (h : di_X_count x1 x2 z = some (r0, a0)) (hx1 : Xx1 = Int32.ofInt x1) (hx2 : Xx2 = Int32.ofInt x2) : dn_X_count Xx1 Xx2 (EE z) = some (Int32.ofInt r0, EE a0) := by
  subst hx1 hx2
  unfold di_X_count at h
  unfold dn_X_count
  obtain ⟨⟨v1, z1⟩, er1, h⟩ := bnd h
  refine bnd_i (i_X_isFlow er1 rfl) ?_
  obtain ⟨_, g1, h⟩ := bnd h
  by_cases hc2 : v1 = (0 : Int)
  · have h := ite_t h hc2
    refine ite_gt (eq_i (x := v1) (y := (0 : Int)) (rg_some g1) (by decide) rfl l32_0) hc2 ?_
    exact ret_i l32_m1 h
  · have h := ite_f h hc2
    refine ite_gf (eq_i (x := v1) (y := (0 : Int)) (rg_some g1) (by decide) rfl l32_0) hc2 ?_
    obtain ⟨_, g3, h⟩ := bnd h
    by_cases hc4 : x2 = (0 : Int)
    · have h := ite_t h hc4
      refine ite_gt (eq_i (x := x2) (y := (0 : Int)) (rg_some g3) (by decide) rfl l32_0) hc4 ?_
      obtain ⟨j2, ej2, h⟩ := bnd h
      refine bnd_i (aix_i (by decide) ej2 rfl) ?_
      exact ret_i rfl h
    · have h := ite_f h hc4
      refine ite_gf (eq_i (x := x2) (y := (0 : Int)) (rg_some g3) (by decide) rfl l32_0) hc4 ?_
      by_cases hc5 : x2 = (1 : Int)
      · have h := ite_t h hc5
        refine ite_gt (eq_i (x := x2) (y := (1 : Int)) (rg_some g3) (by decide) rfl l32_1) hc5 ?_
        obtain ⟨j3, ej3, h⟩ := bnd h
        refine bnd_i (aix_i (by decide) ej3 rfl) ?_
        exact ret_i rfl h
      · have h := ite_f h hc5
        refine ite_gf (eq_i (x := x2) (y := (1 : Int)) (rg_some g3) (by decide) rfl l32_1) hc5 ?_
        by_cases hc6 : x2 = (2 : Int)
        · have h := ite_t h hc6
          refine ite_gt (eq_i (x := x2) (y := (2 : Int)) (rg_some g3) (by decide) rfl l32_2) hc6 ?_
          obtain ⟨j4, ej4, h⟩ := bnd h
          refine bnd_i (aix_i (by decide) ej4 rfl) ?_
          exact ret_i rfl h
        · have h := ite_f h hc6
          refine ite_gf (eq_i (x := x2) (y := (2 : Int)) (rg_some g3) (by decide) rfl l32_2) hc6 ?_
          by_cases hc7 : x2 = (3 : Int)
          · have h := ite_t h hc7
            refine ite_gt (eq_i (x := x2) (y := (3 : Int)) (rg_some g3) (by decide) rfl l32_3) hc7 ?_
            obtain ⟨j5, ej5, h⟩ := bnd h
            refine bnd_i (aix_i (by decide) ej5 rfl) ?_
            exact ret_i rfl h
          · have h := ite_f h hc7
            refine ite_gf (eq_i (x := x2) (y := (3 : Int)) (rg_some g3) (by decide) rfl l32_3) hc7 ?_
            by_cases hc8 : x2 = (4 : Int)
            · have h := ite_t h hc8
              refine ite_gt (eq_i (x := x2) (y := (4 : Int)) (rg_some g3) (by decide) rfl l32_4) hc8 ?_
              obtain ⟨j6, ej6, h⟩ := bnd h
              refine bnd_i (aix_i (by decide) ej6 rfl) ?_
              exact ret_i rfl h
            · have h := ite_f h hc8
              refine ite_gf (eq_i (x := x2) (y := (4 : Int)) (rg_some g3) (by decide) rfl l32_4) hc8 ?_
              by_cases hc9 : x2 = (5 : Int)
              · have h := ite_t h hc9
                refine ite_gt (eq_i (x := x2) (y := (5 : Int)) (rg_some g3) (by decide) rfl l32_5) hc9 ?_
                obtain ⟨j7, ej7, h⟩ := bnd h
                refine bnd_i (aix_i (by decide) ej7 rfl) ?_
                exact ret_i rfl h
              · have h := ite_f h hc9
                refine ite_gf (eq_i (x := x2) (y := (5 : Int)) (rg_some g3) (by decide) rfl l32_5) hc9 ?_
                by_cases hc10 : x2 = (6 : Int)
                · have h := ite_t h hc10
                  refine ite_gt (eq_i (x := x2) (y := (6 : Int)) (rg_some g3) (by decide) rfl l32_6) hc10 ?_
                  obtain ⟨j8, ej8, h⟩ := bnd h
                  refine bnd_i (aix_i (by decide) ej8 rfl) ?_
                  exact ret_i rfl h
                · have h := ite_f h hc10
                  refine ite_gf (eq_i (x := x2) (y := (6 : Int)) (rg_some g3) (by decide) rfl l32_6) hc10 ?_
                  exact ret_i l32_m1 h
set_option maxRecDepth 20000 in
theorem i_Y_lesser {Xx0 : Int32} {Xx1 : Int32} {x0 : Int} {x1 : Int} {r0 : Int} (h : di_Y_lesser x0 x1 = some r0) (hx0 : Xx0 = Int32.ofInt x0) (hx1 : Xx1 = Int32.ofInt x1) : dn_Y_lesser Xx0 Xx1 = some (Int32.ofInt r0) := by
  subst hx0 hx1
  unfold di_Y_lesser at h
  unfold dn_Y_lesser
  obtain ⟨_, g1, h⟩ := bnd h
  obtain ⟨_, g2, h⟩ := bnd h
  by_cases hc3 : x1 ≤ x0
  · have h := ite_t h hc3
    refine ite_gt (le_i (x := x1) (y := x0) (rg_some g1) (rg_some g2) rfl rfl) hc3 ?_
    exact retp_i rfl h
  · have h := ite_f h hc3
    refine ite_gf (le_i (x := x1) (y := x0) (rg_some g1) (rg_some g2) rfl rfl) hc3 ?_
    exact retp_i rfl h
set_option maxRecDepth 20000 in
theorem i_Y_measure_10 {Kk44 : Int32 → Mem → Option Mem} {k44 : Int → MemI → Option MemI} {a0 : MemI}
    (hk44 : ∀ (Xy0 : Int32) (y0 : Int) (y1 : MemI), k44 y0 y1 = some a0 → Xy0 = Int32.ofInt y0 → Kk44 Xy0 (EE y1) = some (EE a0)) :
    ∀ (n : Nat) {Xx1 : Int32} {Xx2 : Int32} {x1 : Int} {x2 : Int} {z : MemI}, di_Y_measure_10 k44 n x1 x2 z = some a0 → Xx1 = Int32.ofInt x1 → Xx2 = Int32.ofInt x2 → dn_Y_measure_10 Kk44 n Xx1 Xx2 (EE z) = some (EE a0) := by
  intro n
  induction n with
  | zero =>
    intro Xx1 Xx2 x1 x2 z h hx1 hx2
    cases h
  | succ n ih =>
    intro Xx1 Xx2 x1 x2 z h hx1 hx2
    subst hx1 hx2
    rw [di_Y_measure_10] at h
    rw [dn_Y_measure_10]
    obtain ⟨_, g1, h⟩ := bnd h
    by_cases hc2 : (8 : Int) ≤ x2
    · have h := ite_t h hc2
      refine ite_gt (le_i (x := (8 : Int)) (y := x2) (by decide) (rg_some g1) l32_8 rfl) hc2 ?_
      exact hk44 _ _ _ h rfl
    · have h := ite_f h hc2
      refine ite_gf (le_i (x := (8 : Int)) (y := x2) (by decide) (rg_some g1) l32_8 rfl) hc2 ?_
      obtain ⟨_, g3, h⟩ := bnd h
      by_cases hc4 : x1 = x2
      · have h := ite_t h hc4
        refine ite_gt (eq_i (x := x1) (y := x2) (rg_some g3) (rg_some g1) rfl rfl) hc4 ?_
        obtain ⟨j3, ej3, h⟩ := bnd h
        refine bnd_i (aix_i (by decide) ej3 (hAdd (hMul l32_8 rfl) rfl)) ?_
        obtain ⟨z4, ez4, h⟩ := stN_o h
        refine stM_i (pI_i ez4 l32_0) ?_
        exact ih h rfl (hAdd rfl l32_1)
      · have h := ite_f h hc4
        refine ite_gf (eq_i (x := x1) (y := x2) (rg_some g3) (rg_some g1) rfl rfl) hc4 ?_
        obtain ⟨j1, ej1, h⟩ := bnd h
        refine bnd_i (aix_i (by decide) ej1 (hAdd (hMul l32_8 rfl) rfl)) ?_
        obtain ⟨z2, ez2, h⟩ := stN_o h
        refine stM_i (pI_i ez2 l32_1000000) ?_
        exact ih h rfl (hAdd rfl l32_1)
set_option maxRecDepth 20000 in
theorem i_Y_measure_2 {Kk50 : Mem → Option Mem} {k50 : MemI → Option MemI} {a0 : MemI}
    (hk50 : ∀ (y0 : MemI), k50 y0 = some a0 → Kk50 (EE y0) = some (EE a0)) :
    ∀ (n : Nat) {Xx1 : Int32} {x1 : Int} {z : MemI}, di_Y_measure_2 k50 n x1 z = some a0 → Xx1 = Int32.ofInt x1 → dn_Y_measure_2 Kk50 n Xx1 (EE z) = some (EE a0) := by
  intro n
  induction n with
  | zero =>
    intro Xx1 x1 z h hx1
    cases h
  | succ n ih =>
    intro Xx1 x1 z h hx1
    subst hx1
    rw [di_Y_measure_2] at h
    rw [dn_Y_measure_2]
    obtain ⟨_, g1, h⟩ := bnd h
    by_cases hc2 : (8 : Int) ≤ x1
    · have h := ite_t h hc2
      refine ite_gt (le_i (x := (8 : Int)) (y := x1) (by decide) (rg_some g1) l32_8 rfl) hc2 ?_
      exact hk50 _ h 
    · have h := ite_f h hc2
      refine ite_gf (le_i (x := (8 : Int)) (y := x1) (by decide) (rg_some g1) l32_8 rfl) hc2 ?_
      refine i_Y_measure_10 (fun Xx1 x1 z5 h hx1 => ?_) FU h rfl l32_0
      · subst hx1
        exact ih h (hAdd rfl l32_1)
set_option maxRecDepth 20000 in
theorem i_Y_measure_52 {Kk142 : Mem → Option Mem} {k142 : MemI → Option MemI} {a0 : MemI}
    (hk142 : ∀ (y0 : MemI), k142 y0 = some a0 → Kk142 (EE y0) = some (EE a0)) :
    ∀ (n : Nat) {Xx1 : Int32} {x1 : Int} {z : MemI}, di_Y_measure_52 k142 n x1 z = some a0 → Xx1 = Int32.ofInt x1 → dn_Y_measure_52 Kk142 n Xx1 (EE z) = some (EE a0) := by
  intro n
  induction n with
  | zero =>
    intro Xx1 x1 z h hx1
    cases h
  | succ n ih =>
    intro Xx1 x1 z h hx1
    subst hx1
    rw [di_Y_measure_52] at h
    rw [dn_Y_measure_52]
    obtain ⟨_, g1, h⟩ := bnd h
    obtain ⟨_, g2, h⟩ := bnd h
    by_cases hc3 : (z.1 0 0 0) ≤ x1
    · have h := ite_t h hc3
      refine ite_gt (le_i (x := (z.1 0 0 0)) (y := x1) (rg_some g1) (rg_some g2) rfl rfl) hc3 ?_
      exact hk142 _ h 
    · have h := ite_f h hc3
      refine ite_gf (le_i (x := (z.1 0 0 0)) (y := x1) (rg_some g1) (rg_some g2) rfl rfl) hc3 ?_
      obtain ⟨j7, ej7, h⟩ := bnd h
      refine bnd_i (aix_i (by decide) ej7 rfl) ?_
      obtain ⟨j8, ej8, h⟩ := bnd h
      refine bnd_i (aix_i (by decide) ej8 rfl) ?_
      obtain ⟨v9, ev9, h⟩ := stW_o h
      refine stV_i (hEq ev9 (hAdd (hMul l32_8 rfl) rfl)) ?_
      obtain ⟨j10, ej10, h⟩ := bnd h
      refine bnd_i (aix_i (by decide) ej10 rfl) ?_
      obtain ⟨j11, ej11, h⟩ := bnd h
      refine bnd_i (aix_i (by decide) ej11 rfl) ?_
      obtain ⟨v12, ev12, h⟩ := stW_o h
      refine stV_i (hEq ev12 (hAdd (hMul l32_8 rfl) rfl)) ?_
      obtain ⟨j13, ej13, h⟩ := bnd h
      refine bnd_i (aix_i (by decide) ej13 rfl) ?_
      obtain ⟨j14, ej14, h⟩ := bnd h
      refine bnd_i (aix_i (by decide) ej14 rfl) ?_
      obtain ⟨v15, ev15, h⟩ := bnd h
      refine bnd_i (i_Y_lesser ev15 rfl rfl) ?_
      obtain ⟨j16, ej16, h⟩ := bnd h
      refine bnd_i (aix_i (by decide) ej16 rfl) ?_
      obtain ⟨z17, ez17, h⟩ := stN_o h
      refine stM_i (pI_i ez17 rfl) ?_
      obtain ⟨j18, ej18, h⟩ := bnd h
      refine bnd_i (aix_i (by decide) ej18 rfl) ?_
      obtain ⟨j19, ej19, h⟩ := bnd h
      refine bnd_i (aix_i (by decide) ej19 rfl) ?_
      obtain ⟨v20, ev20, h⟩ := bnd h
      refine bnd_i (i_Y_lesser ev20 rfl rfl) ?_
      obtain ⟨j21, ej21, h⟩ := bnd h
      refine bnd_i (aix_i (by decide) ej21 rfl) ?_
      obtain ⟨z22, ez22, h⟩ := stN_o h
      refine stM_i (pI_i ez22 rfl) ?_
      exact ih h (hAdd rfl l32_1)
set_option maxRecDepth 20000 in
theorem i_Y_measure_160 {Kk220 : Int32 → Int32 → Mem → Option Mem} {k220 : Int → Int → MemI → Option MemI} {a0 : MemI}
    (hk220 : ∀ (Xy0 : Int32) (Xy1 : Int32) (y0 : Int) (y1 : Int) (y2 : MemI), k220 y0 y1 y2 = some a0 → Xy0 = Int32.ofInt y0 → Xy1 = Int32.ofInt y1 → Kk220 Xy0 Xy1 (EE y2) = some (EE a0)) :
    ∀ (n : Nat) {Xx1 : Int32} {Xx2 : Int32} {Xx3 : Int32} {x1 : Int} {x2 : Int} {x3 : Int} {z : MemI}, di_Y_measure_160 k220 n x1 x2 x3 z = some a0 → Xx1 = Int32.ofInt x1 → Xx2 = Int32.ofInt x2 → Xx3 = Int32.ofInt x3 → dn_Y_measure_160 Kk220 n Xx1 Xx2 Xx3 (EE z) = some (EE a0) := by
  intro n
  induction n with
  | zero =>
    intro Xx1 Xx2 Xx3 x1 x2 x3 z h hx1 hx2 hx3
    cases h
  | succ n ih =>
    intro Xx1 Xx2 Xx3 x1 x2 x3 z h hx1 hx2 hx3
    subst hx1 hx2 hx3
    rw [di_Y_measure_160] at h
    rw [dn_Y_measure_160]
    obtain ⟨_, g1, h⟩ := bnd h
    by_cases hc2 : (8 : Int) ≤ x3
    · have h := ite_t h hc2
      refine ite_gt (le_i (x := (8 : Int)) (y := x3) (by decide) (rg_some g1) l32_8 rfl) hc2 ?_
      exact hk220 _ _ _ _ _ h rfl rfl
    · have h := ite_f h hc2
      refine ite_gf (le_i (x := (8 : Int)) (y := x3) (by decide) (rg_some g1) l32_8 rfl) hc2 ?_
      obtain ⟨j24, ej24, h⟩ := bnd h
      refine bnd_i (aix_i (by decide) ej24 (hAdd (hMul l32_8 rfl) rfl)) ?_
      obtain ⟨j25, ej25, h⟩ := bnd h
      refine bnd_i (aix_i (by decide) ej25 (hAdd (hMul l32_8 rfl) rfl)) ?_
      obtain ⟨j26, ej26, h⟩ := bnd h
      refine bnd_i (aix_i (by decide) ej26 (hAdd (hMul l32_8 rfl) rfl)) ?_
      obtain ⟨v27, ev27, h⟩ := bnd h
      refine bnd_i (i_Y_lesser ev27 rfl (hAdd rfl rfl)) ?_
      obtain ⟨j28, ej28, h⟩ := bnd h
      refine bnd_i (aix_i (by decide) ej28 (hAdd (hMul l32_8 rfl) rfl)) ?_
      obtain ⟨z29, ez29, h⟩ := stN_o h
      refine stM_i (pI_i ez29 rfl) ?_
      exact ih h rfl rfl (hAdd rfl l32_1)
set_option maxRecDepth 20000 in
theorem i_Y_measure_152 {Kk226 : Int32 → Mem → Option Mem} {k226 : Int → MemI → Option MemI} {a0 : MemI}
    (hk226 : ∀ (Xy0 : Int32) (y0 : Int) (y1 : MemI), k226 y0 y1 = some a0 → Xy0 = Int32.ofInt y0 → Kk226 Xy0 (EE y1) = some (EE a0)) :
    ∀ (n : Nat) {Xx1 : Int32} {Xx2 : Int32} {x1 : Int} {x2 : Int} {z : MemI}, di_Y_measure_152 k226 n x1 x2 z = some a0 → Xx1 = Int32.ofInt x1 → Xx2 = Int32.ofInt x2 → dn_Y_measure_152 Kk226 n Xx1 Xx2 (EE z) = some (EE a0) := by
  intro n
  induction n with
  | zero =>
    intro Xx1 Xx2 x1 x2 z h hx1 hx2
    cases h
  | succ n ih =>
    intro Xx1 Xx2 x1 x2 z h hx1 hx2
    subst hx1 hx2
    rw [di_Y_measure_152] at h
    rw [dn_Y_measure_152]
    obtain ⟨_, g1, h⟩ := bnd h
    by_cases hc2 : (8 : Int) ≤ x2
    · have h := ite_t h hc2
      refine ite_gt (le_i (x := (8 : Int)) (y := x2) (by decide) (rg_some g1) l32_8 rfl) hc2 ?_
      exact hk226 _ _ _ h rfl
    · have h := ite_f h hc2
      refine ite_gf (le_i (x := (8 : Int)) (y := x2) (by decide) (rg_some g1) l32_8 rfl) hc2 ?_
      refine i_Y_measure_160 (fun Xx1 Xx2 x1 x2 z30 h hx1 hx2 => ?_) FU h rfl rfl l32_0
      · subst hx1 hx2
        exact ih h rfl (hAdd rfl l32_1)
set_option maxRecDepth 20000 in
theorem i_Y_measure_144 {Kk232 : Mem → Option Mem} {k232 : MemI → Option MemI} {a0 : MemI}
    (hk232 : ∀ (y0 : MemI), k232 y0 = some a0 → Kk232 (EE y0) = some (EE a0)) :
    ∀ (n : Nat) {Xx1 : Int32} {x1 : Int} {z : MemI}, di_Y_measure_144 k232 n x1 z = some a0 → Xx1 = Int32.ofInt x1 → dn_Y_measure_144 Kk232 n Xx1 (EE z) = some (EE a0) := by
  intro n
  induction n with
  | zero =>
    intro Xx1 x1 z h hx1
    cases h
  | succ n ih =>
    intro Xx1 x1 z h hx1
    subst hx1
    rw [di_Y_measure_144] at h
    rw [dn_Y_measure_144]
    obtain ⟨_, g1, h⟩ := bnd h
    by_cases hc2 : (8 : Int) ≤ x1
    · have h := ite_t h hc2
      refine ite_gt (le_i (x := (8 : Int)) (y := x1) (by decide) (rg_some g1) l32_8 rfl) hc2 ?_
      exact hk232 _ h 
    · have h := ite_f h hc2
      refine ite_gf (le_i (x := (8 : Int)) (y := x1) (by decide) (rg_some g1) l32_8 rfl) hc2 ?_
      refine i_Y_measure_152 (fun Xx1 x1 z31 h hx1 => ?_) FU h rfl l32_0
      · subst hx1
        exact ih h (hAdd rfl l32_1)
set_option maxRecDepth 20000 in
theorem i_Y_measure {z : MemI} {a0 : MemI} (h : di_Y_measure z = some a0)  : dn_Y_measure (EE z) = some (EE a0) := by
  unfold di_Y_measure at h
  unfold dn_Y_measure
  refine i_Y_measure_2 (fun z6 h  => ?_) FU h l32_0
  · refine i_Y_measure_52 (fun z23 h  => ?_) FU h l32_0
    · refine i_Y_measure_144 (fun z32 h  => ?_) FU h l32_0
      · exact retv_i h
set_option maxRecDepth 20000 in
theorem i_Y_clear_32 {Kk51 : Mem → Option Mem} {k51 : MemI → Option MemI} {a0 : MemI}
    (hk51 : ∀ (y0 : MemI), k51 y0 = some a0 → Kk51 (EE y0) = some (EE a0)) :
    ∀ (n : Nat) {Xx1 : Int32} {x1 : Int} {z : MemI}, di_Y_clear_32 k51 n x1 z = some a0 → Xx1 = Int32.ofInt x1 → dn_Y_clear_32 Kk51 n Xx1 (EE z) = some (EE a0) := by
  intro n
  induction n with
  | zero =>
    intro Xx1 x1 z h hx1
    cases h
  | succ n ih =>
    intro Xx1 x1 z h hx1
    subst hx1
    rw [di_Y_clear_32] at h
    rw [dn_Y_clear_32]
    obtain ⟨_, g1, h⟩ := bnd h
    by_cases hc2 : (64 : Int) ≤ x1
    · have h := ite_t h hc2
      refine ite_gt (le_i (x := (64 : Int)) (y := x1) (by decide) (rg_some g1) l32_64 rfl) hc2 ?_
      exact hk51 _ h 
    · have h := ite_f h hc2
      refine ite_gf (le_i (x := (64 : Int)) (y := x1) (by decide) (rg_some g1) l32_64 rfl) hc2 ?_
      obtain ⟨j8, ej8, h⟩ := bnd h
      refine bnd_i (aix_i (by decide) ej8 rfl) ?_
      obtain ⟨z9, ez9, h⟩ := stN_o h
      refine stM_i (pI_i ez9 l32_0) ?_
      exact ih h (hAdd rfl l32_1)
set_option maxRecDepth 20000 in
theorem i_Y_clear {z : MemI} {a0 : MemI} (h : di_Y_clear z = some a0)  : dn_Y_clear (EE z) = some (EE a0) := by
  unfold di_Y_clear at h
  unfold dn_Y_clear
  obtain ⟨z1, ez1, h⟩ := stN_o h
  refine stM_i (pI_i ez1 l32_0) ?_
  obtain ⟨z2, ez2, h⟩ := stN_o h
  refine stM_i (pI_i ez2 l32_0) ?_
  obtain ⟨_, g1, h⟩ := bnd h
  refine bnd_i (bz_i g1 l32_0) ?_
  obtain ⟨z4, ez4, h⟩ := stN_o h
  refine stM_i (pI_i ez4 l32_0) ?_
  obtain ⟨z5, ez5, h⟩ := stN_o h
  refine stM_i (pI_i ez5 l32_0) ?_
  obtain ⟨z6, ez6, h⟩ := stN_o h
  refine stM_i (pI_i ez6 l32_0) ?_
  obtain ⟨z7, ez7, h⟩ := stN_o h
  refine stM_i (pI_i ez7 l32_0) ?_
  refine i_Y_clear_32 (fun z10 h  => ?_) FU h l32_0
  · obtain ⟨z11, ez11, h⟩ := bnd h
    refine bnd_i (i_Y_measure ez11 ) ?_
    exact retv_i h
set_option maxRecDepth 20000 in
theorem i_Y_node {Xx0 : Int32} {x0 : Int} {r0 : Int} (h : di_Y_node x0 = some r0) (hx0 : Xx0 = Int32.ofInt x0) : dn_Y_node Xx0 = some (Int32.ofInt r0) := by
  subst hx0
  unfold di_Y_node at h
  unfold dn_Y_node
  obtain ⟨_, g1, h⟩ := bnd h
  by_cases hc2 : x0 < (0 : Int)
  · have h := ite_t h hc2
    refine ite_gt (lt_i (x := x0) (y := (0 : Int)) (rg_some g1) (by decide) rfl l32_0) hc2 ?_
    obtain ⟨_, g3, h⟩ := bnd h
    refine bnd_i (bz_i g3 l32_0) ?_
    exact retp_i l32_0 h
  · have h := ite_f h hc2
    refine ite_gf (lt_i (x := x0) (y := (0 : Int)) (rg_some g1) (by decide) rfl l32_0) hc2 ?_
    by_cases hc4 : (7 : Int) < x0
    · have h := ite_t h hc4
      refine ite_gt (lt_i (x := (7 : Int)) (y := x0) (by decide) (rg_some g1) l32_7 rfl) hc4 ?_
      obtain ⟨_, g5, h⟩ := bnd h
      refine bnd_i (bz_i g5 l32_0) ?_
      exact retp_i l32_0 h
    · have h := ite_f h hc4
      refine ite_gf (lt_i (x := (7 : Int)) (y := x0) (by decide) (rg_some g1) l32_7 rfl) hc4 ?_
      obtain ⟨_, g6, h⟩ := bnd h
      refine bnd_i (bz_i g6 l32_1) ?_
      exact retp_i l32_1 h
set_option maxRecDepth 20000 in
theorem i_Y_within {Xx0 : Int32} {Xx1 : Int32} {Xx2 : Int32} {x0 : Int} {x1 : Int} {x2 : Int} {r0 : Int} (h : di_Y_within x0 x1 x2 = some r0) (hx0 : Xx0 = Int32.ofInt x0) (hx1 : Xx1 = Int32.ofInt x1) (hx2 : Xx2 = Int32.ofInt x2) : dn_Y_within Xx0 Xx1 Xx2 = some (Int32.ofInt r0) := by
  subst hx0 hx1 hx2
  unfold di_Y_within at h
  unfold dn_Y_within
  obtain ⟨_, g1, h⟩ := bnd h
  obtain ⟨_, g2, h⟩ := bnd h
  by_cases hc3 : x0 < x1
  · have h := ite_t h hc3
    refine ite_gt (lt_i (x := x0) (y := x1) (rg_some g1) (rg_some g2) rfl rfl) hc3 ?_
    obtain ⟨_, g4, h⟩ := bnd h
    refine bnd_i (bz_i g4 l32_0) ?_
    exact retp_i l32_0 h
  · have h := ite_f h hc3
    refine ite_gf (lt_i (x := x0) (y := x1) (rg_some g1) (rg_some g2) rfl rfl) hc3 ?_
    obtain ⟨_, g5, h⟩ := bnd h
    by_cases hc6 : x2 < x0
    · have h := ite_t h hc6
      refine ite_gt (lt_i (x := x2) (y := x0) (rg_some g5) (rg_some g1) rfl rfl) hc6 ?_
      obtain ⟨_, g7, h⟩ := bnd h
      refine bnd_i (bz_i g7 l32_0) ?_
      exact retp_i l32_0 h
    · have h := ite_f h hc6
      refine ite_gf (lt_i (x := x2) (y := x0) (rg_some g5) (rg_some g1) rfl rfl) hc6 ?_
      obtain ⟨_, g8, h⟩ := bnd h
      refine bnd_i (bz_i g8 l32_1) ?_
      exact retp_i l32_1 h
