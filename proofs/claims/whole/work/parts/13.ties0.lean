set_option maxRecDepth 20000 in
theorem i_X_isNode {Xx0 : Int32} {x0 : Int} {r0 : Int} (h : di_X_isNode x0 = some r0) (hx0 : Xx0 = Int32.ofInt x0) : dn_X_isNode Xx0 = some (Int32.ofInt r0) := by
  subst hx0
  unfold di_X_isNode at h
  unfold dn_X_isNode
  obtain ⟨_, g1, h⟩ := bnd h
  by_cases hc2 : x0 < (0 : Int)
  · have h := ite_t h hc2
    refine ite_gt (lt_i (x := x0) (y := (0 : Int)) (rg_some g1) (by decide) rfl l32_0) hc2 ?_
    obtain ⟨_, g3, h⟩ := bnd h
    refine bnd_i (bz_i g3 l32_0) ?_
    exact retp_i l32_0 h
  · have h := ite_f h hc2
    refine ite_gf (lt_i (x := x0) (y := (0 : Int)) (rg_some g1) (by decide) rfl l32_0) hc2 ?_
    by_cases hc4 : (8 : Int) ≤ x0
    · have h := ite_t h hc4
      refine ite_gt (le_i (x := (8 : Int)) (y := x0) (by decide) (rg_some g1) l32_8 rfl) hc4 ?_
      obtain ⟨_, g5, h⟩ := bnd h
      refine bnd_i (bz_i g5 l32_0) ?_
      exact retp_i l32_0 h
    · have h := ite_f h hc4
      refine ite_gf (le_i (x := (8 : Int)) (y := x0) (by decide) (rg_some g1) l32_8 rfl) hc4 ?_
      obtain ⟨_, g6, h⟩ := bnd h
      refine bnd_i (bz_i g6 l32_1) ?_
      exact retp_i l32_1 h
set_option maxRecDepth 20000 in
theorem i_X_isWithin {Xx0 : Int32} {Xx1 : Int32} {Xx2 : Int32} {x0 : Int} {x1 : Int} {x2 : Int} {r0 : Int} (h : di_X_isWithin x0 x1 x2 = some r0) (hx0 : Xx0 = Int32.ofInt x0) (hx1 : Xx1 = Int32.ofInt x1) (hx2 : Xx2 = Int32.ofInt x2) : dn_X_isWithin Xx0 Xx1 Xx2 = some (Int32.ofInt r0) := by
  subst hx0 hx1 hx2
  unfold di_X_isWithin at h
  unfold dn_X_isWithin
  obtain ⟨_, g1, h⟩ := bnd h
  obtain ⟨_, g2, h⟩ := bnd h
  by_cases hc3 : x0 < x1
  · have h := ite_t h hc3
    refine ite_gt (lt_i (x := x0) (y := x1) (rg_some g1) (rg_some g2) rfl rfl) hc3 ?_
    obtain ⟨_, g4, h⟩ := bnd h
    refine bnd_i (bz_i g4 l32_0) ?_
    exact retp_i l32_0 h
  · have h := ite_f h hc3
    refine ite_gf (lt_i (x := x0) (y := x1) (rg_some g1) (rg_some g2) rfl rfl) hc3 ?_
    obtain ⟨_, g5, h⟩ := bnd h
    by_cases hc6 : x2 < x0
    · have h := ite_t h hc6
      refine ite_gt (lt_i (x := x2) (y := x0) (rg_some g5) (rg_some g1) rfl rfl) hc6 ?_
      obtain ⟨_, g7, h⟩ := bnd h
      refine bnd_i (bz_i g7 l32_0) ?_
      exact retp_i l32_0 h
    · have h := ite_f h hc6
      refine ite_gf (lt_i (x := x2) (y := x0) (rg_some g5) (rg_some g1) rfl rfl) hc6 ?_
      obtain ⟨_, g8, h⟩ := bnd h
      refine bnd_i (bz_i g8 l32_1) ?_
      exact retp_i l32_1 h
set_option maxRecDepth 20000 in
theorem i_J_fillX7_5 {Kk20 : Mem → Option Mem} {k20 : MemI → Option MemI} {a0 : MemI}
    (hk20 : ∀ (y0 : MemI), k20 y0 = some a0 → Kk20 (EE y0) = some (EE a0)) :
    ∀ (n : Nat) {Xx1 : Int32} {Xx2 : Int32} {Xx3 : Int32} {x0 : Nat} {x1 : Int} {x2 : Int} {x3 : Int} {z : MemI}, di_J_fillX7_5 k20 n x0 x1 x2 x3 z = some a0 → Xx1 = Int32.ofInt x1 → Xx2 = Int32.ofInt x2 → Xx3 = Int32.ofInt x3 → dn_J_fillX7_5 Kk20 n x0 Xx1 Xx2 Xx3 (EE z) = some (EE a0) := by
  intro n
  induction n with
  | zero =>
    intro Xx1 Xx2 Xx3 x0 x1 x2 x3 z h hx1 hx2 hx3
    cases h
  | succ n ih =>
    intro Xx1 Xx2 Xx3 x0 x1 x2 x3 z h hx1 hx2 hx3
    subst hx1 hx2 hx3
    rw [di_J_fillX7_5] at h
    rw [dn_J_fillX7_5]
    obtain ⟨_, g1, h⟩ := bnd h
    obtain ⟨_, g2, h⟩ := bnd h
    by_cases hc3 : x3 ≤ x2
    · have h := ite_t h hc3
      refine ite_gt (le_i (x := x3) (y := x2) (rg_some g1) (rg_some g2) rfl rfl) hc3 ?_
      exact hk20 _ h 
    · have h := ite_f h hc3
      refine ite_gf (le_i (x := x3) (y := x2) (rg_some g1) (rg_some g2) rfl rfl) hc3 ?_
      obtain ⟨j1, ej1, h⟩ := bnd h
      refine bnd_i (aix_i (by decide) ej1 rfl) ?_
      obtain ⟨z2, ez2, h⟩ := stN_o h
      refine stM_i (pI_i ez2 rfl) ?_
      exact ih h rfl (hAdd rfl l32_1) rfl
set_option maxRecDepth 20000 in
theorem i_J_fillX7 {Xx1 : Int32} {x0 : Nat} {x1 : Int} {z : MemI} {a0 : MemI} (h : di_J_fillX7 x0 x1 z = some a0) (hx1 : Xx1 = Int32.ofInt x1) : dn_J_fillX7 x0 Xx1 (EE z) = some (EE a0) := by
  subst hx1
  unfold di_J_fillX7 at h
  unfold dn_J_fillX7
  refine i_J_fillX7_5 (fun z3 h  => ?_) FU h rfl l32_0 l32_6
  · exact retv_i h
set_option maxRecDepth 20000 in
theorem i_P_lay {Xx1 : Int32} {Xx2 : Int32} {Xx3 : Int32} {Xx4 : Int32} {Xx5 : Int32} {x0 : Nat} {x1 : Int} {x2 : Int} {x3 : Int} {x4 : Int} {x5 : Int} {z : MemI} {a0 : MemI} (h : di_P_lay x0 x1 x2 x3 x4 x5 z = some a0) (hx1 : Xx1 = Int32.ofInt x1) (hx2 : Xx2 = Int32.ofInt x2) (hx3 : Xx3 = Int32.ofInt x3) (hx4 : Xx4 = Int32.ofInt x4) (hx5 : Xx5 = Int32.ofInt x5) : dn_P_lay x0 Xx1 Xx2 Xx3 Xx4 Xx5 (EE z) = some (EE a0) := by
  subst hx1 hx2 hx3 hx4 hx5
  unfold di_P_lay at h
  unfold dn_P_lay
  obtain ⟨z1, ez1, h⟩ := stN_o h
  refine stM_i (pI_i ez1 rfl) ?_
  obtain ⟨z2, ez2, h⟩ := stN_o h
  refine stM_i (pI_i ez2 rfl) ?_
  obtain ⟨z3, ez3, h⟩ := stN_o h
  refine stM_i (pI_i ez3 rfl) ?_
  obtain ⟨z4, ez4, h⟩ := stN_o h
  refine stM_i (pI_i ez4 rfl) ?_
  obtain ⟨z5, ez5, h⟩ := stN_o h
  refine stM_i (pI_i ez5 rfl) ?_
  obtain ⟨z6, ez6, h⟩ := stN_o h
  refine stM_i (pI_i ez6 l32_8) ?_
  obtain ⟨z7, ez7, h⟩ := stN_o h
  refine stM_i (pI_i ez7 l32_4) ?_
  obtain ⟨z8, ez8, h⟩ := stN_o h
  refine stM_i (pI_i ez8 l32_m1) ?_
  obtain ⟨z9, ez9, h⟩ := stN_o h
  refine stM_i (pI_i ez9 l32_0) ?_
  obtain ⟨z10, ez10, h⟩ := stN_o h
  refine stM_i (pI_i ez10 l32_0) ?_
  obtain ⟨_, g1, h⟩ := bnd h
  refine bnd_i (bz_i g1 l32_0) ?_
  obtain ⟨z12, ez12, h⟩ := stN_o h
  refine stM_i (pI_i ez12 l32_0) ?_
  obtain ⟨z13, ez13, h⟩ := bnd h
  refine bnd_i (i_J_fillX7 ez13 l32_0) ?_
  exact retv_i h
set_option maxRecDepth 20000 in
theorem i_X_shortenOver_13 {Kk119 : Int32 → Int32 → Int32 → Int32 → Mem → Option Mem} {k119 : Int → Int → Int → Int → MemI → Option MemI} {a0 : MemI}
    (hk119 : ∀ (Xy0 : Int32) (Xy1 : Int32) (Xy2 : Int32) (Xy3 : Int32) (y0 : Int) (y1 : Int) (y2 : Int) (y3 : Int) (y4 : MemI), k119 y0 y1 y2 y3 y4 = some a0 → Xy0 = Int32.ofInt y0 → Xy1 = Int32.ofInt y1 → Xy2 = Int32.ofInt y2 → Xy3 = Int32.ofInt y3 → Kk119 Xy0 Xy1 Xy2 Xy3 (EE y4) = some (EE a0)) :
    ∀ (n : Nat) {Xx1 : Int32} {Xx2 : Int32} {Xx3 : Int32} {Xx4 : Int32} {Xx5 : Int32} {x1 : Int} {x2 : Int} {x3 : Int} {x4 : Int} {x5 : Int} {z : MemI}, di_X_shortenOver_13 k119 n x1 x2 x3 x4 x5 z = some a0 → Xx1 = Int32.ofInt x1 → Xx2 = Int32.ofInt x2 → Xx3 = Int32.ofInt x3 → Xx4 = Int32.ofInt x4 → Xx5 = Int32.ofInt x5 → dn_X_shortenOver_13 Kk119 n Xx1 Xx2 Xx3 Xx4 Xx5 (EE z) = some (EE a0) := by
  intro n
  induction n with
  | zero =>
    intro Xx1 Xx2 Xx3 Xx4 Xx5 x1 x2 x3 x4 x5 z h hx1 hx2 hx3 hx4 hx5
    cases h
  | succ n ih =>
    intro Xx1 Xx2 Xx3 Xx4 Xx5 x1 x2 x3 x4 x5 z h hx1 hx2 hx3 hx4 hx5
    subst hx1 hx2 hx3 hx4 hx5
    rw [di_X_shortenOver_13] at h
    rw [dn_X_shortenOver_13]
    obtain ⟨_, g1, h⟩ := bnd h
    by_cases hc2 : (8 : Int) ≤ x5
    · have h := ite_t h hc2
      refine ite_gt (le_i (x := (8 : Int)) (y := x5) (by decide) (rg_some g1) l32_8 rfl) hc2 ?_
      exact hk119 _ _ _ _ _ _ _ _ _ h rfl rfl rfl rfl
    · have h := ite_f h hc2
      refine ite_gf (le_i (x := (8 : Int)) (y := x5) (by decide) (rg_some g1) l32_8 rfl) hc2 ?_
      obtain ⟨j1, ej1, h⟩ := bnd h
      refine bnd_i (aix_i (by decide) ej1 rfl) ?_
      obtain ⟨j2, ej2, h⟩ := bnd h
      refine bnd_i (aix_i (by decide) ej2 rfl) ?_
      obtain ⟨_, g3, h⟩ := bnd h
      by_cases hc4 : (z.1 2 j1 j2) = (-1 : Int)
      · have h := ite_t h hc4
        refine ite_gt (eq_i (x := (z.1 2 j1 j2)) (y := (-1 : Int)) (rg_some g3) (by decide) rfl l32_m1) hc4 ?_
        exact ih h rfl rfl rfl rfl (hAdd rfl l32_1)
      · have h := ite_f h hc4
        refine ite_gf (eq_i (x := (z.1 2 j1 j2)) (y := (-1 : Int)) (rg_some g3) (by decide) rfl l32_m1) hc4 ?_
        obtain ⟨j3, ej3, h⟩ := bnd h
        refine bnd_i (aix_i (by decide) ej3 rfl) ?_
        obtain ⟨j4, ej4, h⟩ := bnd h
        refine bnd_i (aix_i (by decide) ej4 rfl) ?_
        obtain ⟨_, g5, h⟩ := bnd h
        by_cases hc6 : (z.1 2 j3 j4) = (-1 : Int)
        · have h := ite_t h hc6
          refine ite_gt (eq_i (x := (z.1 2 j3 j4)) (y := (-1 : Int)) (rg_some g5) (by decide) rfl l32_m1) hc6 ?_
          exact ih h rfl rfl rfl rfl (hAdd rfl l32_1)
        · have h := ite_f h hc6
          refine ite_gf (eq_i (x := (z.1 2 j3 j4)) (y := (-1 : Int)) (rg_some g5) (by decide) rfl l32_m1) hc6 ?_
          obtain ⟨j5, ej5, h⟩ := bnd h
          refine bnd_i (aix_i (by decide) ej5 rfl) ?_
          obtain ⟨j6, ej6, h⟩ := bnd h
          refine bnd_i (aix_i (by decide) ej6 rfl) ?_
          obtain ⟨j7, ej7, h⟩ := bnd h
          refine bnd_i (aix_i (by decide) ej7 rfl) ?_
          obtain ⟨j8, ej8, h⟩ := bnd h
          refine bnd_i (aix_i (by decide) ej8 rfl) ?_
          obtain ⟨v9, ev9, h⟩ := stW_o h
          refine stV_i (hEq ev9 (hAdd (hAdd rfl rfl) rfl)) ?_
          obtain ⟨j10, ej10, h⟩ := bnd h
          refine bnd_i (aix_i (by decide) ej10 rfl) ?_
          obtain ⟨j11, ej11, h⟩ := bnd h
          refine bnd_i (aix_i (by decide) ej11 rfl) ?_
          obtain ⟨_, g7, h⟩ := bnd h
          by_cases hc8 : (z.1 2 j10 j11) = (-1 : Int)
          · have h := ite_t h hc8
            refine ite_gt (eq_i (x := (z.1 2 j10 j11)) (y := (-1 : Int)) (rg_some g7) (by decide) rfl l32_m1) hc8 ?_
            obtain ⟨j12, ej12, h⟩ := bnd h
            refine bnd_i (aix_i (by decide) ej12 rfl) ?_
            obtain ⟨j13, ej13, h⟩ := bnd h
            refine bnd_i (aix_i (by decide) ej13 rfl) ?_
            obtain ⟨z14, ez14, h⟩ := stN_o h
            refine stM_i (pI_i ez14 rfl) ?_
            exact ih h rfl rfl rfl rfl (hAdd rfl l32_1)
          · have h := ite_f h hc8
            refine ite_gf (eq_i (x := (z.1 2 j10 j11)) (y := (-1 : Int)) (rg_some g7) (by decide) rfl l32_m1) hc8 ?_
            obtain ⟨j15, ej15, h⟩ := bnd h
            refine bnd_i (aix_i (by decide) ej15 rfl) ?_
            obtain ⟨j16, ej16, h⟩ := bnd h
            refine bnd_i (aix_i (by decide) ej16 rfl) ?_
            obtain ⟨_, g9, h⟩ := bnd h
            obtain ⟨_, g10, h⟩ := bnd h
            by_cases hc11 : (z.1 2 j15 j16) ≤ v9
            · have h := ite_t h hc11
              refine ite_gt (le_i (x := (z.1 2 j15 j16)) (y := v9) (rg_some g9) (rg_some g10) rfl rfl) hc11 ?_
              exact ih h rfl rfl rfl rfl (hAdd rfl l32_1)
            · have h := ite_f h hc11
              refine ite_gf (le_i (x := (z.1 2 j15 j16)) (y := v9) (rg_some g9) (rg_some g10) rfl rfl) hc11 ?_
              obtain ⟨j17, ej17, h⟩ := bnd h
              refine bnd_i (aix_i (by decide) ej17 rfl) ?_
              obtain ⟨j18, ej18, h⟩ := bnd h
              refine bnd_i (aix_i (by decide) ej18 rfl) ?_
              obtain ⟨z19, ez19, h⟩ := stN_o h
              refine stM_i (pI_i ez19 rfl) ?_
              exact ih h rfl rfl rfl rfl (hAdd rfl l32_1)
set_option maxRecDepth 20000 in
theorem i_X_shortenOver_3 {Kk125 : Mem → Option Mem} {k125 : MemI → Option MemI} {a0 : MemI}
    (hk125 : ∀ (y0 : MemI), k125 y0 = some a0 → Kk125 (EE y0) = some (EE a0)) :
    ∀ (n : Nat) {Xx1 : Int32} {Xx2 : Int32} {Xx3 : Int32} {Xx4 : Int32} {x1 : Int} {x2 : Int} {x3 : Int} {x4 : Int} {z : MemI}, di_X_shortenOver_3 k125 n x1 x2 x3 x4 z = some a0 → Xx1 = Int32.ofInt x1 → Xx2 = Int32.ofInt x2 → Xx3 = Int32.ofInt x3 → Xx4 = Int32.ofInt x4 → dn_X_shortenOver_3 Kk125 n Xx1 Xx2 Xx3 Xx4 (EE z) = some (EE a0) := by
  intro n
  induction n with
  | zero =>
    intro Xx1 Xx2 Xx3 Xx4 x1 x2 x3 x4 z h hx1 hx2 hx3 hx4
    cases h
  | succ n ih =>
    intro Xx1 Xx2 Xx3 Xx4 x1 x2 x3 x4 z h hx1 hx2 hx3 hx4
    subst hx1 hx2 hx3 hx4
    rw [di_X_shortenOver_3] at h
    rw [dn_X_shortenOver_3]
    obtain ⟨_, g1, h⟩ := bnd h
    by_cases hc2 : (8 : Int) ≤ x4
    · have h := ite_t h hc2
      refine ite_gt (le_i (x := (8 : Int)) (y := x4) (by decide) (rg_some g1) l32_8 rfl) hc2 ?_
      exact hk125 _ h 
    · have h := ite_f h hc2
      refine ite_gf (le_i (x := (8 : Int)) (y := x4) (by decide) (rg_some g1) l32_8 rfl) hc2 ?_
      refine i_X_shortenOver_13 (fun Xx1 Xx2 Xx3 Xx4 x1 x2 x3 x4 z20 h hx1 hx2 hx3 hx4 => ?_) FU h rfl rfl rfl rfl l32_0
      · subst hx1 hx2 hx3 hx4
        exact ih h rfl rfl rfl (hAdd rfl l32_1)
set_option maxRecDepth 20000 in
theorem i_X_shortenOver {Xx1 : Int32} {Xx2 : Int32} {Xx3 : Int32} {x1 : Int} {x2 : Int} {x3 : Int} {z : MemI} {a0 : MemI} (h : di_X_shortenOver x1 x2 x3 z = some a0) (hx1 : Xx1 = Int32.ofInt x1) (hx2 : Xx2 = Int32.ofInt x2) (hx3 : Xx3 = Int32.ofInt x3) : dn_X_shortenOver Xx1 Xx2 Xx3 (EE z) = some (EE a0) := by
  subst hx1 hx2 hx3
  unfold di_X_shortenOver at h
  unfold dn_X_shortenOver
  refine i_X_shortenOver_3 (fun z21 h  => ?_) FU h rfl rfl rfl l32_0
  · exact retv_i h
set_option maxRecDepth 20000 in
theorem i_X_link {Xx1 : Int32} {Xx2 : Int32} {Xx3 : Int32} {Xx4 : Int32} {Xx5 : Int32} {x1 : Int} {x2 : Int} {x3 : Int} {x4 : Int} {x5 : Int} {z : MemI} {r0 : Int} {a0 : MemI} (h : di_X_link x1 x2 x3 x4 x5 z = some (r0, a0)) (hx1 : Xx1 = Int32.ofInt x1) (hx2 : Xx2 = Int32.ofInt x2) (hx3 : Xx3 = Int32.ofInt x3) (hx4 : Xx4 = Int32.ofInt x4) (hx5 : Xx5 = Int32.ofInt x5) : dn_X_link Xx1 Xx2 Xx3 Xx4 Xx5 (EE z) = some (Int32.ofInt r0, EE a0) := by
  subst hx1 hx2 hx3 hx4 hx5
  unfold di_X_link at h
  unfold dn_X_link
  obtain ⟨_, g1, h⟩ := bnd h
  by_cases hc2 : (z.1 0 0 9) = (0 : Int)
  · have h := ite_t h hc2
    refine ite_gt (eq_i (x := (z.1 0 0 9)) (y := (0 : Int)) (rg_some g1) (by decide) rfl l32_0) hc2 ?_
    obtain ⟨_, g3, h⟩ := bnd h
    by_cases hc4 : (12 : Int) ≤ (z.1 0 0 6)
    · have h := ite_t h hc4
      refine ite_gt (le_i (x := (12 : Int)) (y := (z.1 0 0 6)) (by decide) (rg_some g3) l32_12 rfl) hc4 ?_
      exact ret_i l32_m1 h
    · have h := ite_f h hc4
      refine ite_gf (le_i (x := (12 : Int)) (y := (z.1 0 0 6)) (by decide) (rg_some g3) l32_12 rfl) hc4 ?_
      obtain ⟨v1, ev1, h⟩ := bnd h
      refine bnd_i (i_X_isNode ev1 rfl) ?_
      obtain ⟨_, g5, h⟩ := bnd h
      by_cases hc6 : v1 = (0 : Int)
      · have h := ite_t h hc6
        refine ite_gt (eq_i (x := v1) (y := (0 : Int)) (rg_some g5) (by decide) rfl l32_0) hc6 ?_
        exact ret_i l32_m1 h
      · have h := ite_f h hc6
        refine ite_gf (eq_i (x := v1) (y := (0 : Int)) (rg_some g5) (by decide) rfl l32_0) hc6 ?_
        obtain ⟨v2, ev2, h⟩ := bnd h
        refine bnd_i (i_X_isNode ev2 rfl) ?_
        obtain ⟨_, g7, h⟩ := bnd h
        by_cases hc8 : v2 = (0 : Int)
        · have h := ite_t h hc8
          refine ite_gt (eq_i (x := v2) (y := (0 : Int)) (rg_some g7) (by decide) rfl l32_0) hc8 ?_
          exact ret_i l32_m1 h
        · have h := ite_f h hc8
          refine ite_gf (eq_i (x := v2) (y := (0 : Int)) (rg_some g7) (by decide) rfl l32_0) hc8 ?_
          obtain ⟨_, g9, h⟩ := bnd h
          obtain ⟨_, g10, h⟩ := bnd h
          by_cases hc11 : x1 = x2
          · have h := ite_t h hc11
            refine ite_gt (eq_i (x := x1) (y := x2) (rg_some g9) (rg_some g10) rfl rfl) hc11 ?_
            exact ret_i l32_m1 h
          · have h := ite_f h hc11
            refine ite_gf (eq_i (x := x1) (y := x2) (rg_some g9) (rg_some g10) rfl rfl) hc11 ?_
            obtain ⟨v3, ev3, h⟩ := bnd h
            refine bnd_i (i_X_isWithin ev3 rfl l32_1 l32_100) ?_
            obtain ⟨_, g12, h⟩ := bnd h
            by_cases hc13 : v3 = (0 : Int)
            · have h := ite_t h hc13
              refine ite_gt (eq_i (x := v3) (y := (0 : Int)) (rg_some g12) (by decide) rfl l32_0) hc13 ?_
              exact ret_i l32_m1 h
            · have h := ite_f h hc13
              refine ite_gf (eq_i (x := v3) (y := (0 : Int)) (rg_some g12) (by decide) rfl l32_0) hc13 ?_
              obtain ⟨v4, ev4, h⟩ := bnd h
              refine bnd_i (i_X_isWithin ev4 rfl l32_1 l32_16) ?_
              obtain ⟨_, g14, h⟩ := bnd h
              by_cases hc15 : v4 = (0 : Int)
              · have h := ite_t h hc15
                refine ite_gt (eq_i (x := v4) (y := (0 : Int)) (rg_some g14) (by decide) rfl l32_0) hc15 ?_
                exact ret_i l32_m1 h
              · have h := ite_f h hc15
                refine ite_gf (eq_i (x := v4) (y := (0 : Int)) (rg_some g14) (by decide) rfl l32_0) hc15 ?_
                obtain ⟨v5, ev5, h⟩ := bnd h
                refine bnd_i (i_X_isWithin ev5 rfl l32_0 l32_40) ?_
                obtain ⟨_, g16, h⟩ := bnd h
                by_cases hc17 : v5 = (0 : Int)
                · have h := ite_t h hc17
                  refine ite_gt (eq_i (x := v5) (y := (0 : Int)) (rg_some g16) (by decide) rfl l32_0) hc17 ?_
                  exact ret_i l32_m1 h
                · have h := ite_f h hc17
                  refine ite_gf (eq_i (x := v5) (y := (0 : Int)) (rg_some g16) (by decide) rfl l32_0) hc17 ?_
                  obtain ⟨j6, ej6, h⟩ := bnd h
                  refine bnd_i (aix_i (by decide) ej6 (hMul l32_2 rfl)) ?_
                  obtain ⟨z7, ez7, h⟩ := bnd h
                  refine bnd_i (i_P_lay ez7 rfl rfl rfl rfl rfl) ?_
                  obtain ⟨j8, ej8, h⟩ := bnd h
                  refine bnd_i (aix_i (by decide) ej8 (hAdd (hMul l32_2 rfl) l32_1)) ?_
                  obtain ⟨z9, ez9, h⟩ := bnd h
                  refine bnd_i (i_P_lay ez9 rfl rfl rfl rfl rfl) ?_
                  obtain ⟨z10, ez10, h⟩ := stN_o h
                  refine stM_i (pI_i ez10 (hAdd rfl l32_1)) ?_
                  obtain ⟨z11, ez11, h⟩ := bnd h
                  refine bnd_i (i_X_shortenOver ez11 rfl rfl rfl) ?_
                  obtain ⟨z12, ez12, h⟩ := bnd h
                  refine bnd_i (i_X_shortenOver ez12 rfl rfl rfl) ?_
                  exact ret_i rfl h
  · have h := ite_f h hc2
    refine ite_gf (eq_i (x := (z.1 0 0 9)) (y := (0 : Int)) (rg_some g1) (by decide) rfl l32_0) hc2 ?_
    exact ret_i l32_m1 h
set_option maxRecDepth 20000 in
theorem i_X_isPort {Xx1 : Int32} {x1 : Int} {z : MemI} {r0 : Int} {a0 : MemI} (h : di_X_isPort x1 z = some (r0, a0)) (hx1 : Xx1 = Int32.ofInt x1) : dn_X_isPort Xx1 (EE z) = some (Int32.ofInt r0, EE a0) := by
  subst hx1
  unfold di_X_isPort at h
  unfold dn_X_isPort
  obtain ⟨v1, ev1, h⟩ := bnd h
  refine bnd_i (i_X_isWithin ev1 rfl l32_0 (hSub (hMul l32_2 rfl) l32_1)) ?_
  obtain ⟨_, g1, h⟩ := bnd h
  refine bnd_i (bz_i g1 rfl) ?_
  exact ret_i rfl h
set_option maxRecDepth 20000 in
theorem i_X_shape {Xx1 : Int32} {Xx2 : Int32} {Xx3 : Int32} {x1 : Int} {x2 : Int} {x3 : Int} {z : MemI} {r0 : Int} {a0 : MemI} (h : di_X_shape x1 x2 x3 z = some (r0, a0)) (hx1 : Xx1 = Int32.ofInt x1) (hx2 : Xx2 = Int32.ofInt x2) (hx3 : Xx3 = Int32.ofInt x3) : dn_X_shape Xx1 Xx2 Xx3 (EE z) = some (Int32.ofInt r0, EE a0) := by
  subst hx1 hx2 hx3
  unfold di_X_shape at h
  unfold dn_X_shape
  obtain ⟨_, g1, h⟩ := bnd h
  by_cases hc2 : (z.1 0 0 9) = (0 : Int)
  · have h := ite_t h hc2
    refine ite_gt (eq_i (x := (z.1 0 0 9)) (y := (0 : Int)) (rg_some g1) (by decide) rfl l32_0) hc2 ?_
    obtain ⟨⟨v2, z2⟩, er2, h⟩ := bnd h
    refine bnd_i (i_X_isPort er2 rfl) ?_
    obtain ⟨_, g3, h⟩ := bnd h
    by_cases hc4 : v2 = (0 : Int)
    · have h := ite_t h hc4
      refine ite_gt (eq_i (x := v2) (y := (0 : Int)) (rg_some g3) (by decide) rfl l32_0) hc4 ?_
      obtain ⟨_, g5, h⟩ := bnd h
      refine bnd_i (bz_i g5 l32_0) ?_
      exact ret_i l32_0 h
    · have h := ite_f h hc4
      refine ite_gf (eq_i (x := v2) (y := (0 : Int)) (rg_some g3) (by decide) rfl l32_0) hc4 ?_
      obtain ⟨v4, ev4, h⟩ := bnd h
      refine bnd_i (i_X_isWithin ev4 rfl l32_1 l32_16) ?_
      obtain ⟨_, g6, h⟩ := bnd h
      by_cases hc7 : v4 = (0 : Int)
      · have h := ite_t h hc7
        refine ite_gt (eq_i (x := v4) (y := (0 : Int)) (rg_some g6) (by decide) rfl l32_0) hc7 ?_
        obtain ⟨_, g8, h⟩ := bnd h
        refine bnd_i (bz_i g8 l32_0) ?_
        exact ret_i l32_0 h
      · have h := ite_f h hc7
        refine ite_gf (eq_i (x := v4) (y := (0 : Int)) (rg_some g6) (by decide) rfl l32_0) hc7 ?_
        obtain ⟨v6, ev6, h⟩ := bnd h
        refine bnd_i (i_X_isWithin ev6 rfl l32_1 l32_8) ?_
        obtain ⟨_, g9, h⟩ := bnd h
        by_cases hc10 : v6 = (0 : Int)
        · have h := ite_t h hc10
          refine ite_gt (eq_i (x := v6) (y := (0 : Int)) (rg_some g9) (by decide) rfl l32_0) hc10 ?_
          obtain ⟨_, g11, h⟩ := bnd h
          refine bnd_i (bz_i g11 l32_0) ?_
          exact ret_i l32_0 h
        · have h := ite_f h hc10
          refine ite_gf (eq_i (x := v6) (y := (0 : Int)) (rg_some g9) (by decide) rfl l32_0) hc10 ?_
          obtain ⟨j7, ej7, h⟩ := bnd h
          refine bnd_i (aix_i (by decide) ej7 rfl) ?_
          obtain ⟨z8, ez8, h⟩ := stN_o h
          refine stM_i (pI_i ez8 rfl) ?_
          obtain ⟨j9, ej9, h⟩ := bnd h
          refine bnd_i (aix_i (by decide) ej9 rfl) ?_
          obtain ⟨z10, ez10, h⟩ := stN_o h
          refine stM_i (pI_i ez10 rfl) ?_
          obtain ⟨_, g12, h⟩ := bnd h
          refine bnd_i (bz_i g12 l32_1) ?_
          exact ret_i l32_1 h
  · have h := ite_f h hc2
    refine ite_gf (eq_i (x := (z.1 0 0 9)) (y := (0 : Int)) (rg_some g1) (by decide) rfl l32_0) hc2 ?_
    obtain ⟨_, g13, h⟩ := bnd h
    refine bnd_i (bz_i g13 l32_0) ?_
    exact ret_i l32_0 h
set_option maxRecDepth 20000 in
theorem i_F_found {Xx1 : Int32} {Xx2 : Int32} {Xx3 : Int32} {Xx4 : Int32} {x0 : Nat} {x1 : Int} {x2 : Int} {x3 : Int} {x4 : Int} {z : MemI} {a0 : MemI} (h : di_F_found x0 x1 x2 x3 x4 z = some a0) (hx1 : Xx1 = Int32.ofInt x1) (hx2 : Xx2 = Int32.ofInt x2) (hx3 : Xx3 = Int32.ofInt x3) (hx4 : Xx4 = Int32.ofInt x4) : dn_F_found x0 Xx1 Xx2 Xx3 Xx4 (EE z) = some (EE a0) := by
  subst hx1 hx2 hx3 hx4
  unfold di_F_found at h
  unfold dn_F_found
  obtain ⟨z1, ez1, h⟩ := stN_o h
  refine stM_i (pI_i ez1 rfl) ?_
  obtain ⟨z2, ez2, h⟩ := stN_o h
  refine stM_i (pI_i ez2 rfl) ?_
  obtain ⟨z3, ez3, h⟩ := stN_o h
  refine stM_i (pI_i ez3 rfl) ?_
  obtain ⟨z4, ez4, h⟩ := stN_o h
  refine stM_i (pI_i ez4 rfl) ?_
  obtain ⟨z5, ez5, h⟩ := stN_o h
  refine stM_i (pI_i ez5 l32_4) ?_
  obtain ⟨z6, ez6, h⟩ := stN_o h
  refine stM_i (pI_i ez6 l32_100) ?_
  obtain ⟨z7, ez7, h⟩ := stN_o h
  refine stM_i (pI_i ez7 l32_0) ?_
  obtain ⟨z8, ez8, h⟩ := stN_o h
  refine stM_i (pI_i ez8 l32_0) ?_
  obtain ⟨z9, ez9, h⟩ := stN_o h
  refine stM_i (pI_i ez9 l32_0) ?_
  obtain ⟨z10, ez10, h⟩ := stN_o h
  refine stM_i (pI_i ez10 l32_0) ?_
  obtain ⟨z11, ez11, h⟩ := stN_o h
  refine stM_i (pI_i ez11 l32_0) ?_
  obtain ⟨z12, ez12, h⟩ := stN_o h
  refine stM_i (pI_i ez12 l32_0) ?_
  obtain ⟨z13, ez13, h⟩ := stN_o h
  refine stM_i (pI_i ez13 l32_0) ?_
  obtain ⟨z14, ez14, h⟩ := stN_o h
  refine stM_i (pI_i ez14 l32_0) ?_
  exact retv_i h
set_option maxRecDepth 20000 in
theorem i_X_flow {Xx1 : Int32} {Xx2 : Int32} {Xx3 : Int32} {Xx4 : Int32} {x1 : Int} {x2 : Int} {x3 : Int} {x4 : Int} {z : MemI} {r0 : Int} {a0 : MemI} (h : di_X_flow x1 x2 x3 x4 z = some (r0, a0)) (hx1 : Xx1 = Int32.ofInt x1) (hx2 : Xx2 = Int32.ofInt x2) (hx3 : Xx3 = Int32.ofInt x3) (hx4 : Xx4 = Int32.ofInt x4) : dn_X_flow Xx1 Xx2 Xx3 Xx4 (EE z) = some (Int32.ofInt r0, EE a0) := by
  subst hx1 hx2 hx3 hx4
  unfold di_X_flow at h
  unfold dn_X_flow
  obtain ⟨_, g1, h⟩ := bnd h
  by_cases hc2 : (z.1 0 0 9) = (0 : Int)
  · have h := ite_t h hc2
    refine ite_gt (eq_i (x := (z.1 0 0 9)) (y := (0 : Int)) (rg_some g1) (by decide) rfl l32_0) hc2 ?_
    obtain ⟨_, g3, h⟩ := bnd h
    by_cases hc4 : (6 : Int) ≤ (z.1 0 0 7)
    · have h := ite_t h hc4
      refine ite_gt (le_i (x := (6 : Int)) (y := (z.1 0 0 7)) (by decide) (rg_some g3) l32_6 rfl) hc4 ?_
      exact ret_i l32_m1 h
    · have h := ite_f h hc4
      refine ite_gf (le_i (x := (6 : Int)) (y := (z.1 0 0 7)) (by decide) (rg_some g3) l32_6 rfl) hc4 ?_
      obtain ⟨v1, ev1, h⟩ := bnd h
      refine bnd_i (i_X_isNode ev1 rfl) ?_
      obtain ⟨_, g5, h⟩ := bnd h
      by_cases hc6 : v1 = (0 : Int)
      · have h := ite_t h hc6
        refine ite_gt (eq_i (x := v1) (y := (0 : Int)) (rg_some g5) (by decide) rfl l32_0) hc6 ?_
        exact ret_i l32_m1 h
      · have h := ite_f h hc6
        refine ite_gf (eq_i (x := v1) (y := (0 : Int)) (rg_some g5) (by decide) rfl l32_0) hc6 ?_
        obtain ⟨v2, ev2, h⟩ := bnd h
        refine bnd_i (i_X_isNode ev2 rfl) ?_
        obtain ⟨_, g7, h⟩ := bnd h
        by_cases hc8 : v2 = (0 : Int)
        · have h := ite_t h hc8
          refine ite_gt (eq_i (x := v2) (y := (0 : Int)) (rg_some g7) (by decide) rfl l32_0) hc8 ?_
          exact ret_i l32_m1 h
        · have h := ite_f h hc8
          refine ite_gf (eq_i (x := v2) (y := (0 : Int)) (rg_some g7) (by decide) rfl l32_0) hc8 ?_
          obtain ⟨_, g9, h⟩ := bnd h
          obtain ⟨_, g10, h⟩ := bnd h
          by_cases hc11 : x1 = x2
          · have h := ite_t h hc11
            refine ite_gt (eq_i (x := x1) (y := x2) (rg_some g9) (rg_some g10) rfl rfl) hc11 ?_
            exact ret_i l32_m1 h
          · have h := ite_f h hc11
            refine ite_gf (eq_i (x := x1) (y := x2) (rg_some g9) (rg_some g10) rfl rfl) hc11 ?_
            obtain ⟨v3, ev3, h⟩ := bnd h
            refine bnd_i (i_X_isWithin ev3 rfl l32_1 l32_100) ?_
            obtain ⟨_, g12, h⟩ := bnd h
            by_cases hc13 : v3 = (0 : Int)
            · have h := ite_t h hc13
              refine ite_gt (eq_i (x := v3) (y := (0 : Int)) (rg_some g12) (by decide) rfl l32_0) hc13 ?_
              exact ret_i l32_m1 h
            · have h := ite_f h hc13
              refine ite_gf (eq_i (x := v3) (y := (0 : Int)) (rg_some g12) (by decide) rfl l32_0) hc13 ?_
              obtain ⟨v4, ev4, h⟩ := bnd h
              refine bnd_i (i_X_isWithin ev4 rfl l32_1 l32_8) ?_
              obtain ⟨_, g14, h⟩ := bnd h
              by_cases hc15 : v4 = (0 : Int)
              · have h := ite_t h hc15
                refine ite_gt (eq_i (x := v4) (y := (0 : Int)) (rg_some g14) (by decide) rfl l32_0) hc15 ?_
                exact ret_i l32_m1 h
              · have h := ite_f h hc15
                refine ite_gf (eq_i (x := v4) (y := (0 : Int)) (rg_some g14) (by decide) rfl l32_0) hc15 ?_
                obtain ⟨j5, ej5, h⟩ := bnd h
                refine bnd_i (aix_i (by decide) ej5 rfl) ?_
                obtain ⟨z6, ez6, h⟩ := bnd h
                refine bnd_i (i_F_found ez6 rfl rfl rfl rfl) ?_
                obtain ⟨z7, ez7, h⟩ := stN_o h
                refine stM_i (pI_i ez7 (hAdd rfl l32_1)) ?_
                exact ret_i rfl h
  · have h := ite_f h hc2
    refine ite_gf (eq_i (x := (z.1 0 0 9)) (y := (0 : Int)) (rg_some g1) (by decide) rfl l32_0) hc2 ?_
    exact ret_i l32_m1 h
set_option maxRecDepth 20000 in
theorem i_X_isFlow {Xx1 : Int32} {x1 : Int} {z : MemI} {r0 : Int} {a0 : MemI} (h : di_X_isFlow x1 z = some (r0, a0)) (hx1 : Xx1 = Int32.ofInt x1) : dn_X_isFlow Xx1 (EE z) = some (Int32.ofInt r0, EE a0) := by
  subst hx1
  unfold di_X_isFlow at h
  unfold dn_X_isFlow
  obtain ⟨v1, ev1, h⟩ := bnd h
  refine bnd_i (i_X_isWithin ev1 rfl l32_0 (hSub rfl l32_1)) ?_
  obtain ⟨_, g1, h⟩ := bnd h
  refine bnd_i (bz_i g1 rfl) ?_
  exact ret_i rfl h
set_option maxRecDepth 20000 in
theorem i_X_tune {Xx1 : Int32} {Xx2 : Int32} {Xx3 : Int32} {Xx4 : Int32} {x1 : Int} {x2 : Int} {x3 : Int} {x4 : Int} {z : MemI} {r0 : Int} {a0 : MemI} (h : di_X_tune x1 x2 x3 x4 z = some (r0, a0)) (hx1 : Xx1 = Int32.ofInt x1) (hx2 : Xx2 = Int32.ofInt x2) (hx3 : Xx3 = Int32.ofInt x3) (hx4 : Xx4 = Int32.ofInt x4) : dn_X_tune Xx1 Xx2 Xx3 Xx4 (EE z) = some (Int32.ofInt r0, EE a0) := by
  subst hx1 hx2 hx3 hx4
  unfold di_X_tune at h
  unfold dn_X_tune
  obtain ⟨_, g1, h⟩ := bnd h
  by_cases hc2 : (z.1 0 0 9) = (0 : Int)
  · have h := ite_t h hc2
    refine ite_gt (eq_i (x := (z.1 0 0 9)) (y := (0 : Int)) (rg_some g1) (by decide) rfl l32_0) hc2 ?_
    obtain ⟨⟨v2, z2⟩, er2, h⟩ := bnd h
    refine bnd_i (i_X_isFlow er2 rfl) ?_
    obtain ⟨_, g3, h⟩ := bnd h
    by_cases hc4 : v2 = (0 : Int)
    · have h := ite_t h hc4
      refine ite_gt (eq_i (x := v2) (y := (0 : Int)) (rg_some g3) (by decide) rfl l32_0) hc4 ?_
      obtain ⟨_, g5, h⟩ := bnd h
      refine bnd_i (bz_i g5 l32_0) ?_
      exact ret_i l32_0 h
    · have h := ite_f h hc4
      refine ite_gf (eq_i (x := v2) (y := (0 : Int)) (rg_some g3) (by decide) rfl l32_0) hc4 ?_
      obtain ⟨v4, ev4, h⟩ := bnd h
      refine bnd_i (i_X_isWithin ev4 rfl l32_1 l32_8) ?_
      obtain ⟨_, g6, h⟩ := bnd h
      by_cases hc7 : v4 = (0 : Int)
      · have h := ite_t h hc7
        refine ite_gt (eq_i (x := v4) (y := (0 : Int)) (rg_some g6) (by decide) rfl l32_0) hc7 ?_
        obtain ⟨_, g8, h⟩ := bnd h
        refine bnd_i (bz_i g8 l32_0) ?_
        exact ret_i l32_0 h
      · have h := ite_f h hc7
        refine ite_gf (eq_i (x := v4) (y := (0 : Int)) (rg_some g6) (by decide) rfl l32_0) hc7 ?_
        obtain ⟨v5, ev5, h⟩ := bnd h
        refine bnd_i (i_X_isWithin ev5 rfl l32_1 l32_200) ?_
        obtain ⟨_, g9, h⟩ := bnd h
        by_cases hc10 : v5 = (0 : Int)
        · have h := ite_t h hc10
          refine ite_gt (eq_i (x := v5) (y := (0 : Int)) (rg_some g9) (by decide) rfl l32_0) hc10 ?_
          obtain ⟨_, g11, h⟩ := bnd h
          refine bnd_i (bz_i g11 l32_0) ?_
          exact ret_i l32_0 h
        · have h := ite_f h hc10
          refine ite_gf (eq_i (x := v5) (y := (0 : Int)) (rg_some g9) (by decide) rfl l32_0) hc10 ?_
          obtain ⟨v7, ev7, h⟩ := bnd h
          refine bnd_i (i_X_isWithin ev7 rfl l32_0 l32_1000) ?_
          obtain ⟨_, g12, h⟩ := bnd h
          by_cases hc13 : v7 = (0 : Int)
          · have h := ite_t h hc13
            refine ite_gt (eq_i (x := v7) (y := (0 : Int)) (rg_some g12) (by decide) rfl l32_0) hc13 ?_
            obtain ⟨_, g14, h⟩ := bnd h
            refine bnd_i (bz_i g14 l32_0) ?_
            exact ret_i l32_0 h
          · have h := ite_f h hc13
            refine ite_gf (eq_i (x := v7) (y := (0 : Int)) (rg_some g12) (by decide) rfl l32_0) hc13 ?_
            obtain ⟨j8, ej8, h⟩ := bnd h
            refine bnd_i (aix_i (by decide) ej8 rfl) ?_
            obtain ⟨z9, ez9, h⟩ := stN_o h
            refine stM_i (pI_i ez9 rfl) ?_
            obtain ⟨j10, ej10, h⟩ := bnd h
            refine bnd_i (aix_i (by decide) ej10 rfl) ?_
            obtain ⟨z11, ez11, h⟩ := stN_o h
            refine stM_i (pI_i ez11 rfl) ?_
            obtain ⟨j12, ej12, h⟩ := bnd h
            refine bnd_i (aix_i (by decide) ej12 rfl) ?_
            obtain ⟨z13, ez13, h⟩ := stN_o h
            refine stM_i (pI_i ez13 rfl) ?_
            obtain ⟨_, g15, h⟩ := bnd h
            refine bnd_i (bz_i g15 l32_1) ?_
            exact ret_i l32_1 h
  · have h := ite_f h hc2
    refine ite_gf (eq_i (x := (z.1 0 0 9)) (y := (0 : Int)) (rg_some g1) (by decide) rfl l32_0) hc2 ?_
    obtain ⟨_, g16, h⟩ := bnd h
    refine bnd_i (bz_i g16 l32_0) ?_
    exact ret_i l32_0 h
set_option maxRecDepth 20000 in
theorem i_J_fillX2_5 {Kk20 : Mem → Option Mem} {k20 : MemI → Option MemI} {a0 : MemI}
    (hk20 : ∀ (y0 : MemI), k20 y0 = some a0 → Kk20 (EE y0) = some (EE a0)) :
    ∀ (n : Nat) {Xx1 : Int32} {Xx2 : Int32} {Xx3 : Int32} {x0 : Nat} {x1 : Int} {x2 : Int} {x3 : Int} {z : MemI}, di_J_fillX2_5 k20 n x0 x1 x2 x3 z = some a0 → Xx1 = Int32.ofInt x1 → Xx2 = Int32.ofInt x2 → Xx3 = Int32.ofInt x3 → dn_J_fillX2_5 Kk20 n x0 Xx1 Xx2 Xx3 (EE z) = some (EE a0) := by
  intro n
  induction n with
  | zero =>
    intro Xx1 Xx2 Xx3 x0 x1 x2 x3 z h hx1 hx2 hx3
    cases h
  | succ n ih =>
    intro Xx1 Xx2 Xx3 x0 x1 x2 x3 z h hx1 hx2 hx3
    subst hx1 hx2 hx3
    rw [di_J_fillX2_5] at h
    rw [dn_J_fillX2_5]
    obtain ⟨_, g1, h⟩ := bnd h
    obtain ⟨_, g2, h⟩ := bnd h
    by_cases hc3 : x3 ≤ x2
    · have h := ite_t h hc3
      refine ite_gt (le_i (x := x3) (y := x2) (rg_some g1) (rg_some g2) rfl rfl) hc3 ?_
      exact hk20 _ h 
    · have h := ite_f h hc3
      refine ite_gf (le_i (x := x3) (y := x2) (rg_some g1) (rg_some g2) rfl rfl) hc3 ?_
      obtain ⟨j1, ej1, h⟩ := bnd h
      refine bnd_i (aix_i (by decide) ej1 rfl) ?_
      obtain ⟨z2, ez2, h⟩ := stN_o h
      refine stM_i (pI_i ez2 rfl) ?_
      exact ih h rfl (hAdd rfl l32_1) rfl
set_option maxRecDepth 20000 in
theorem i_J_fillX2 {Xx1 : Int32} {x0 : Nat} {x1 : Int} {z : MemI} {a0 : MemI} (h : di_J_fillX2 x0 x1 z = some a0) (hx1 : Xx1 = Int32.ofInt x1) : dn_J_fillX2 x0 Xx1 (EE z) = some (EE a0) := by
  subst hx1
  unfold di_J_fillX2 at h
  unfold dn_J_fillX2
  refine i_J_fillX2_5 (fun z3 h  => ?_) FU h rfl l32_0 l32_8
  · exact retv_i h
set_option maxRecDepth 20000 in
theorem i_J_fillX13_5 {Kk20 : Mem → Option Mem} {k20 : MemI → Option MemI} {a0 : MemI}
    (hk20 : ∀ (y0 : MemI), k20 y0 = some a0 → Kk20 (EE y0) = some (EE a0)) :
    ∀ (n : Nat) {Xx1 : Int32} {Xx2 : Int32} {Xx3 : Int32} {x1 : Int} {x2 : Int} {x3 : Int} {z : MemI}, di_J_fillX13_5 k20 n x1 x2 x3 z = some a0 → Xx1 = Int32.ofInt x1 → Xx2 = Int32.ofInt x2 → Xx3 = Int32.ofInt x3 → dn_J_fillX13_5 Kk20 n Xx1 Xx2 Xx3 (EE z) = some (EE a0) := by
  intro n
  induction n with
  | zero =>
    intro Xx1 Xx2 Xx3 x1 x2 x3 z h hx1 hx2 hx3
    cases h
  | succ n ih =>
    intro Xx1 Xx2 Xx3 x1 x2 x3 z h hx1 hx2 hx3
    subst hx1 hx2 hx3
    rw [di_J_fillX13_5] at h
    rw [dn_J_fillX13_5]
    obtain ⟨_, g1, h⟩ := bnd h
    obtain ⟨_, g2, h⟩ := bnd h
    by_cases hc3 : x3 ≤ x2
    · have h := ite_t h hc3
      refine ite_gt (le_i (x := x3) (y := x2) (rg_some g1) (rg_some g2) rfl rfl) hc3 ?_
      exact hk20 _ h 
    · have h := ite_f h hc3
      refine ite_gf (le_i (x := x3) (y := x2) (rg_some g1) (rg_some g2) rfl rfl) hc3 ?_
      obtain ⟨j1, ej1, h⟩ := bnd h
      refine bnd_i (aix_i (by decide) ej1 rfl) ?_
      obtain ⟨z2, ez2, h⟩ := stN_o h
      refine stM_i (pI_i ez2 rfl) ?_
      exact ih h rfl (hAdd rfl l32_1) rfl
set_option maxRecDepth 20000 in
theorem i_J_fillX13 {Xx1 : Int32} {x1 : Int} {z : MemI} {a0 : MemI} (h : di_J_fillX13 x1 z = some a0) (hx1 : Xx1 = Int32.ofInt x1) : dn_J_fillX13 Xx1 (EE z) = some (EE a0) := by
  subst hx1
  unfold di_J_fillX13 at h
  unfold dn_J_fillX13
  refine i_J_fillX13_5 (fun z3 h  => ?_) FU h rfl l32_0 l32_70
  · exact retv_i h
set_option maxRecDepth 20000 in
theorem i_A_unsetAll {z : MemI} {a0 : MemI} (h : di_A_unsetAll z = some a0)  : dn_A_unsetAll (EE z) = some (EE a0) := by
  unfold di_A_unsetAll at h
  unfold dn_A_unsetAll
  obtain ⟨z1, ez1, h⟩ := bnd h
  refine bnd_i (i_J_fillX13 ez1 l32_0) ?_
  obtain ⟨z2, ez2, h⟩ := stN_o h
  refine stM_i (pI_i ez2 l32_0) ?_
  exact retv_i h
set_option maxRecDepth 20000 in
theorem i_J_fillX16_6 {Kk22 : Mem → Option Mem} {k22 : MemI → Option MemI} {a0 : MemI}
    (hk22 : ∀ (y0 : MemI), k22 y0 = some a0 → Kk22 (EE y0) = some (EE a0)) :
    ∀ (n : Nat) {Xx1 : Int64} {Xx3 : Int32} {Xx4 : Int32} {x1 : Int} {x3 : Int} {x4 : Int} {z : MemI}, di_J_fillX16_6 k22 n x1 x3 x4 z = some a0 → Xx1 = Int64.ofInt x1 → Xx3 = Int32.ofInt x3 → Xx4 = Int32.ofInt x4 → dn_J_fillX16_6 Kk22 n Xx1 Xx3 Xx4 (EE z) = some (EE a0) := by
  intro n
  induction n with
  | zero =>
    intro Xx1 Xx3 Xx4 x1 x3 x4 z h hx1 hx3 hx4
    cases h
  | succ n ih =>
    intro Xx1 Xx3 Xx4 x1 x3 x4 z h hx1 hx3 hx4
    subst hx1 hx3 hx4
    rw [di_J_fillX16_6] at h
    rw [dn_J_fillX16_6]
    obtain ⟨_, g1, h⟩ := bnd h
    obtain ⟨_, g2, h⟩ := bnd h
    by_cases hc3 : x4 ≤ x3
    · have h := ite_t h hc3
      refine ite_gt (le_i (x := x4) (y := x3) (rg_some g1) (rg_some g2) rfl rfl) hc3 ?_
      exact hk22 _ h 
    · have h := ite_f h hc3
      refine ite_gf (le_i (x := x4) (y := x3) (rg_some g1) (rg_some g2) rfl rfl) hc3 ?_
      obtain ⟨j1, ej1, h⟩ := bnd h
      refine bnd_i (aix_i (by decide) ej1 rfl) ?_
      obtain ⟨z2, ez2, h⟩ := stN_o h
      refine stM_i (pL_i ez2 rfl) ?_
      exact ih h rfl (hAdd rfl l32_1) rfl
set_option maxRecDepth 20000 in
theorem i_J_fillX16 {Xx1 : Int64} {x1 : Int} {z : MemI} {a0 : MemI} (h : di_J_fillX16 x1 z = some a0) (hx1 : Xx1 = Int64.ofInt x1) : dn_J_fillX16 Xx1 (EE z) = some (EE a0) := by
  subst hx1
  unfold di_J_fillX16 at h
  unfold dn_J_fillX16
  refine i_J_fillX16_6 (fun z3 h  => ?_) FU h rfl l32_0 l32_16
  · exact retv_i h
set_option maxRecDepth 20000 in
theorem i_X_clear_22 {Kk53 : Mem → Option Mem} {k53 : MemI → Option MemI} {a0 : MemI}
    (hk53 : ∀ (y0 : MemI), k53 y0 = some a0 → Kk53 (EE y0) = some (EE a0)) :
    ∀ (n : Nat) {Xx1 : Int32} {x1 : Int} {z : MemI}, di_X_clear_22 k53 n x1 z = some a0 → Xx1 = Int32.ofInt x1 → dn_X_clear_22 Kk53 n Xx1 (EE z) = some (EE a0) := by
  intro n
  induction n with
  | zero =>
    intro Xx1 x1 z h hx1
    cases h
  | succ n ih =>
    intro Xx1 x1 z h hx1
    subst hx1
    rw [di_X_clear_22] at h
    rw [dn_X_clear_22]
    obtain ⟨_, g1, h⟩ := bnd h
    by_cases hc2 : (8 : Int) ≤ x1
    · have h := ite_t h hc2
      refine ite_gt (le_i (x := (8 : Int)) (y := x1) (by decide) (rg_some g1) l32_8 rfl) hc2 ?_
      exact hk53 _ h 
    · have h := ite_f h hc2
      refine ite_gf (le_i (x := (8 : Int)) (y := x1) (by decide) (rg_some g1) l32_8 rfl) hc2 ?_
      obtain ⟨j6, ej6, h⟩ := bnd h
      refine bnd_i (aix_i (by decide) ej6 rfl) ?_
      obtain ⟨z7, ez7, h⟩ := bnd h
      refine bnd_i (i_J_fillX2 ez7 l32_m1) ?_
      obtain ⟨j8, ej8, h⟩ := bnd h
      refine bnd_i (aix_i (by decide) ej8 rfl) ?_
      obtain ⟨j9, ej9, h⟩ := bnd h
      refine bnd_i (aix_i (by decide) ej9 rfl) ?_
      obtain ⟨z10, ez10, h⟩ := stN_o h
      refine stM_i (pI_i ez10 l32_0) ?_
      exact ih h (hAdd rfl l32_1)
set_option maxRecDepth 20000 in
theorem i_X_clear_55 {Kk77 : Mem → Option Mem} {k77 : MemI → Option MemI} {a0 : MemI}
    (hk77 : ∀ (y0 : MemI), k77 y0 = some a0 → Kk77 (EE y0) = some (EE a0)) :
    ∀ (n : Nat) {Xx1 : Int32} {x1 : Int} {z : MemI}, di_X_clear_55 k77 n x1 z = some a0 → Xx1 = Int32.ofInt x1 → dn_X_clear_55 Kk77 n Xx1 (EE z) = some (EE a0) := by
  intro n
  induction n with
  | zero =>
    intro Xx1 x1 z h hx1
    cases h
  | succ n ih =>
    intro Xx1 x1 z h hx1
    subst hx1
    rw [di_X_clear_55] at h
    rw [dn_X_clear_55]
    obtain ⟨_, g1, h⟩ := bnd h
    by_cases hc2 : (64 : Int) ≤ x1
    · have h := ite_t h hc2
      refine ite_gt (le_i (x := (64 : Int)) (y := x1) (by decide) (rg_some g1) l32_64 rfl) hc2 ?_
      exact hk77 _ h 
    · have h := ite_f h hc2
      refine ite_gf (le_i (x := (64 : Int)) (y := x1) (by decide) (rg_some g1) l32_64 rfl) hc2 ?_
      obtain ⟨j12, ej12, h⟩ := bnd h
      refine bnd_i (aix_i (by decide) ej12 rfl) ?_
      obtain ⟨_, g3, h⟩ := bnd h
      refine bnd_i (bz_i g3 l32_0) ?_
      obtain ⟨z14, ez14, h⟩ := stN_o h
      refine stM_i (pI_i ez14 l32_0) ?_
      exact ih h (hAdd rfl l32_1)
set_option maxRecDepth 20000 in
theorem i_X_clear {z : MemI} {a0 : MemI} (h : di_X_clear z = some a0)  : dn_X_clear (EE z) = some (EE a0) := by
  unfold di_X_clear at h
  unfold dn_X_clear
  obtain ⟨_, g1, h⟩ := bnd h
  refine bnd_i (bz_i g1 l32_0) ?_
  obtain ⟨z2, ez2, h⟩ := stN_o h
  refine stM_i (pI_i ez2 l32_0) ?_
  obtain ⟨z3, ez3, h⟩ := stN_o h
  refine stM_i (pI_i ez3 l32_0) ?_
  obtain ⟨z4, ez4, h⟩ := stN_o h
  refine stM_i (pI_i ez4 l32_0) ?_
  obtain ⟨z5, ez5, h⟩ := stN_o h
  refine stM_i (pI_i ez5 l32_0) ?_
  refine i_X_clear_22 (fun z11 h  => ?_) FU h l32_0
  · refine i_X_clear_55 (fun z15 h  => ?_) FU h l32_0
    · obtain ⟨z16, ez16, h⟩ := bnd h
      refine bnd_i (i_A_unsetAll ez16 ) ?_
      obtain ⟨z17, ez17, h⟩ := bnd h
      refine bnd_i (i_J_fillX16 ez17 l64_m1) ?_
      exact retv_i h
set_option maxRecDepth 20000 in
theorem i_A_set {Xx1 : Int32} {Xx2 : Int32} {Xx3 : Int32} {x1 : Int} {x2 : Int} {x3 : Int} {z : MemI} {a0 : MemI} (h : di_A_set x1 x2 x3 z = some a0) (hx1 : Xx1 = Int32.ofInt x1) (hx2 : Xx2 = Int32.ofInt x2) (hx3 : Xx3 = Int32.ofInt x3) : dn_A_set Xx1 Xx2 Xx3 (EE z) = some (EE a0) := by
  subst hx1 hx2 hx3
  unfold di_A_set at h
  unfold dn_A_set
  obtain ⟨j1, ej1, h⟩ := bnd h
  refine bnd_i (aix_i (by decide) ej1 rfl) ?_
  obtain ⟨z2, ez2, h⟩ := stN_o h
  refine stM_i (pI_i ez2 rfl) ?_
  obtain ⟨j3, ej3, h⟩ := bnd h
  refine bnd_i (aix_i (by decide) ej3 rfl) ?_
  obtain ⟨z4, ez4, h⟩ := stN_o h
  refine stM_i (pI_i ez4 rfl) ?_
  obtain ⟨j5, ej5, h⟩ := bnd h
  refine bnd_i (aix_i (by decide) ej5 rfl) ?_
  obtain ⟨z6, ez6, h⟩ := stN_o h
  refine stM_i (pI_i ez6 rfl) ?_
  obtain ⟨z7, ez7, h⟩ := stN_o h
  refine stM_i (pI_i ez7 (hAdd rfl l32_1)) ?_
  exact retv_i h
set_option maxRecDepth 20000 in
theorem i_X_begin_15 {Kk47 : Mem → Option Mem} {k47 : MemI → Option MemI} {a0 : MemI}
    (hk47 : ∀ (y0 : MemI), k47 y0 = some a0 → Kk47 (EE y0) = some (EE a0)) :
    ∀ (n : Nat) {Xx1 : Int32} {x1 : Int} {z : MemI}, di_X_begin_15 k47 n x1 z = some a0 → Xx1 = Int32.ofInt x1 → dn_X_begin_15 Kk47 n Xx1 (EE z) = some (EE a0) := by
  intro n
  induction n with
  | zero =>
    intro Xx1 x1 z h hx1
    cases h
  | succ n ih =>
    intro Xx1 x1 z h hx1
    subst hx1
    rw [di_X_begin_15] at h
    rw [dn_X_begin_15]
    obtain ⟨_, g1, h⟩ := bnd h
    obtain ⟨_, g2, h⟩ := bnd h
    by_cases hc3 : (z.1 0 0 7) ≤ x1
    · have h := ite_t h hc3
      refine ite_gt (le_i (x := (z.1 0 0 7)) (y := x1) (rg_some g1) (rg_some g2) rfl rfl) hc3 ?_
      exact hk47 _ h 
    · have h := ite_f h hc3
      refine ite_gf (le_i (x := (z.1 0 0 7)) (y := x1) (rg_some g1) (rg_some g2) rfl rfl) hc3 ?_
      obtain ⟨j3, ej3, h⟩ := bnd h
      refine bnd_i (aix_i (by decide) ej3 rfl) ?_
      obtain ⟨z4, ez4, h⟩ := bnd h
      refine bnd_i (i_A_set ez4 rfl l32_1 rfl) ?_
      exact ih h (hAdd rfl l32_1)
set_option maxRecDepth 20000 in
theorem i_X_begin {z : MemI} {a0 : MemI} (h : di_X_begin z = some a0)  : dn_X_begin (EE z) = some (EE a0) := by
  unfold di_X_begin at h
  unfold dn_X_begin
  obtain ⟨_, g1, h⟩ := bnd h
  by_cases hc2 : (z.1 0 0 9) = (0 : Int)
  · have h := ite_t h hc2
    refine ite_gt (eq_i (x := (z.1 0 0 9)) (y := (0 : Int)) (rg_some g1) (by decide) rfl l32_0) hc2 ?_
    obtain ⟨_, g3, h⟩ := bnd h
    refine bnd_i (bz_i g3 l32_1) ?_
    obtain ⟨z2, ez2, h⟩ := stN_o h
    refine stM_i (pI_i ez2 l32_1) ?_
    refine i_X_begin_15 (fun z5 h  => ?_) FU h l32_0
    · exact retv_i h
  · have h := ite_f h hc2
    refine ite_gf (eq_i (x := (z.1 0 0 9)) (y := (0 : Int)) (rg_some g1) (by decide) rfl l32_0) hc2 ?_
    exact retv_i h
set_option maxRecDepth 20000 in
theorem i_A_isBefore {Xx1 : Int32} {Xx2 : Int32} {x1 : Int} {x2 : Int} {z : MemI} {r0 : Int} {a0 : MemI} (h : di_A_isBefore x1 x2 z = some (r0, a0)) (hx1 : Xx1 = Int32.ofInt x1) (hx2 : Xx2 = Int32.ofInt x2) : dn_A_isBefore Xx1 Xx2 (EE z) = some (Int32.ofInt r0, EE a0) := by
  subst hx1 hx2
  unfold di_A_isBefore at h
  unfold dn_A_isBefore
  obtain ⟨j1, ej1, h⟩ := bnd h
  refine bnd_i (aix_i (by decide) ej1 rfl) ?_
  obtain ⟨j2, ej2, h⟩ := bnd h
  refine bnd_i (aix_i (by decide) ej2 rfl) ?_
  obtain ⟨_, g1, h⟩ := bnd h
  obtain ⟨_, g2, h⟩ := bnd h
  by_cases hc3 : (z.1 14 0 j1) < (z.1 14 0 j2)
  · have h := ite_t h hc3
    refine ite_gt (lt_i (x := (z.1 14 0 j1)) (y := (z.1 14 0 j2)) (rg_some g1) (rg_some g2) rfl rfl) hc3 ?_
    obtain ⟨_, g4, h⟩ := bnd h
    refine bnd_i (bz_i g4 l32_1) ?_
    exact ret_i l32_1 h
  · have h := ite_f h hc3
    refine ite_gf (lt_i (x := (z.1 14 0 j1)) (y := (z.1 14 0 j2)) (rg_some g1) (rg_some g2) rfl rfl) hc3 ?_
    obtain ⟨j4, ej4, h⟩ := bnd h
    refine bnd_i (aix_i (by decide) ej4 rfl) ?_
    obtain ⟨j5, ej5, h⟩ := bnd h
    refine bnd_i (aix_i (by decide) ej5 rfl) ?_
    obtain ⟨_, g5, h⟩ := bnd h
    obtain ⟨_, g6, h⟩ := bnd h
    by_cases hc7 : (z.1 14 0 j4) = (z.1 14 0 j5)
    · have h := ite_t h hc7
      refine ite_gt (eq_i (x := (z.1 14 0 j4)) (y := (z.1 14 0 j5)) (rg_some g5) (rg_some g6) rfl rfl) hc7 ?_
      obtain ⟨j7, ej7, h⟩ := bnd h
      refine bnd_i (aix_i (by decide) ej7 rfl) ?_
      obtain ⟨j8, ej8, h⟩ := bnd h
      refine bnd_i (aix_i (by decide) ej8 rfl) ?_
      obtain ⟨_, g8, h⟩ := bnd h
      obtain ⟨_, g9, h⟩ := bnd h
      by_cases hc10 : (z.1 15 0 j8) ≤ (z.1 15 0 j7)
      · have h := ite_t h hc10
        refine ite_gt (le_i (x := (z.1 15 0 j8)) (y := (z.1 15 0 j7)) (rg_some g8) (rg_some g9) rfl rfl) hc10 ?_
        obtain ⟨_, g11, h⟩ := bnd h
        refine bnd_i (bz_i g11 l32_0) ?_
        exact ret_i l32_0 h
      · have h := ite_f h hc10
        refine ite_gf (le_i (x := (z.1 15 0 j8)) (y := (z.1 15 0 j7)) (rg_some g8) (rg_some g9) rfl rfl) hc10 ?_
        obtain ⟨_, g12, h⟩ := bnd h
        refine bnd_i (bz_i g12 l32_1) ?_
        exact ret_i l32_1 h
    · have h := ite_f h hc7
      refine ite_gf (eq_i (x := (z.1 14 0 j4)) (y := (z.1 14 0 j5)) (rg_some g5) (rg_some g6) rfl rfl) hc7 ?_
      obtain ⟨_, g13, h⟩ := bnd h
      refine bnd_i (bz_i g13 l32_0) ?_
      exact ret_i l32_0 h
set_option maxRecDepth 20000 in
theorem i_A_firstSlot_4 {Kk41 : Int32 → Mem → Option (Int32 × Mem)} {k41 : Int → MemI → Option (Int × MemI)} {r0 : Int} {a0 : MemI}
    (hk41 : ∀ (Xy0 : Int32) (y0 : Int) (y1 : MemI), k41 y0 y1 = some (r0, a0) → Xy0 = Int32.ofInt y0 → Kk41 Xy0 (EE y1) = some (Int32.ofInt r0, EE a0)) :
    ∀ (n : Nat) {Xx1 : Int32} {Xx2 : Int32} {x1 : Int} {x2 : Int} {z : MemI}, di_A_firstSlot_4 k41 n x1 x2 z = some (r0, a0) → Xx1 = Int32.ofInt x1 → Xx2 = Int32.ofInt x2 → dn_A_firstSlot_4 Kk41 n Xx1 Xx2 (EE z) = some (Int32.ofInt r0, EE a0) := by
  intro n
  induction n with
  | zero =>
    intro Xx1 Xx2 x1 x2 z h hx1 hx2
    cases h
  | succ n ih =>
    intro Xx1 Xx2 x1 x2 z h hx1 hx2
    subst hx1 hx2
    rw [di_A_firstSlot_4] at h
    rw [dn_A_firstSlot_4]
    obtain ⟨_, g1, h⟩ := bnd h
    by_cases hc2 : (70 : Int) ≤ x2
    · have h := ite_t h hc2
      refine ite_gt (le_i (x := (70 : Int)) (y := x2) (by decide) (rg_some g1) l32_70 rfl) hc2 ?_
      exact hk41 _ _ _ h rfl
    · have h := ite_f h hc2
      refine ite_gf (le_i (x := (70 : Int)) (y := x2) (by decide) (rg_some g1) l32_70 rfl) hc2 ?_
      obtain ⟨j1, ej1, h⟩ := bnd h
      refine bnd_i (aix_i (by decide) ej1 rfl) ?_
      obtain ⟨_, g3, h⟩ := bnd h
      by_cases hc4 : (z.1 13 0 j1) = (0 : Int)
      · have h := ite_t h hc4
        refine ite_gt (eq_i (x := (z.1 13 0 j1)) (y := (0 : Int)) (rg_some g3) (by decide) rfl l32_0) hc4 ?_
        exact ih h rfl (hAdd rfl l32_1)
      · have h := ite_f h hc4
        refine ite_gf (eq_i (x := (z.1 13 0 j1)) (y := (0 : Int)) (rg_some g3) (by decide) rfl l32_0) hc4 ?_
        obtain ⟨_, g5, h⟩ := bnd h
        by_cases hc6 : x1 = (-1 : Int)
        · have h := ite_t h hc6
          refine ite_gt (eq_i (x := x1) (y := (-1 : Int)) (rg_some g5) (by decide) rfl l32_m1) hc6 ?_
          exact ih h rfl (hAdd rfl l32_1)
        · have h := ite_f h hc6
          refine ite_gf (eq_i (x := x1) (y := (-1 : Int)) (rg_some g5) (by decide) rfl l32_m1) hc6 ?_
          obtain ⟨⟨v2, z2⟩, er2, h⟩ := bnd h
          refine bnd_i (i_A_isBefore er2 rfl rfl) ?_
          obtain ⟨_, g7, h⟩ := bnd h
          by_cases hc8 : v2 = (0 : Int)
          · have h := ite_t h hc8
            refine ite_gt (eq_i (x := v2) (y := (0 : Int)) (rg_some g7) (by decide) rfl l32_0) hc8 ?_
            exact ih h rfl (hAdd rfl l32_1)
          · have h := ite_f h hc8
            refine ite_gf (eq_i (x := v2) (y := (0 : Int)) (rg_some g7) (by decide) rfl l32_0) hc8 ?_
            exact ih h rfl (hAdd rfl l32_1)
set_option maxRecDepth 20000 in
theorem i_A_firstSlot {z : MemI} {r0 : Int} {a0 : MemI} (h : di_A_firstSlot z = some (r0, a0))  : dn_A_firstSlot (EE z) = some (Int32.ofInt r0, EE a0) := by
  unfold di_A_firstSlot at h
  unfold dn_A_firstSlot
  refine i_A_firstSlot_4 (fun Xx1 x1 z3 h hx1 => ?_) FU h l32_m1 l32_0
  · subst hx1
    exact ret_i rfl h
set_option maxRecDepth 20000 in
theorem i_A_unset {Xx1 : Int32} {x1 : Int} {z : MemI} {a0 : MemI} (h : di_A_unset x1 z = some a0) (hx1 : Xx1 = Int32.ofInt x1) : dn_A_unset Xx1 (EE z) = some (EE a0) := by
  subst hx1
  unfold di_A_unset at h
  unfold dn_A_unset
  obtain ⟨j1, ej1, h⟩ := bnd h
  refine bnd_i (aix_i (by decide) ej1 rfl) ?_
  obtain ⟨z2, ez2, h⟩ := stN_o h
  refine stM_i (pI_i ez2 l32_0) ?_
  exact retv_i h
set_option maxRecDepth 20000 in
theorem i_X_remember {Xx1 : Int32} {Xx2 : Int32} {Xx3 : Int32} {x1 : Int} {x2 : Int} {x3 : Int} {z : MemI} {a0 : MemI} (h : di_X_remember x1 x2 x3 z = some a0) (hx1 : Xx1 = Int32.ofInt x1) (hx2 : Xx2 = Int32.ofInt x2) (hx3 : Xx3 = Int32.ofInt x3) : dn_X_remember Xx1 Xx2 Xx3 (EE z) = some (EE a0) := by
  subst hx1 hx2 hx3
  unfold di_X_remember at h
  unfold dn_X_remember
  obtain ⟨_, g1, h⟩ := bnd h
  refine bnd_i (acp_i (by decide) g1 l32_0 l32_1 l32_15) ?_
  obtain ⟨z2, ez2, h⟩ := stN_o h
  refine stM_i (cpL_i (by decide) g1 ez2 l32_0 l32_1 l32_15) ?_
  obtain ⟨j3, ej3, h⟩ := bnd h
  refine bnd_i (aix_i (by decide) ej3 l32_0) ?_
  obtain ⟨_, g2, h⟩ := bnd h
  obtain ⟨_, g3, h⟩ := bnd h
  obtain ⟨_, g4, h⟩ := bnd h
  obtain ⟨_, g5, h⟩ := bnd h
  obtain ⟨z4, ez4, h⟩ := stN_o h
  refine stM_i (pL_i ez4 (hAddL (hAddL (hAddL (hMulL (hI2L g2 rfl) l64_1048576) (hI2L g3 (hMul rfl l32_65536))) (hI2L g4 (hMul rfl l32_256))) (hI2L g5 rfl))) ?_
  exact retv_i h
set_option maxRecDepth 20000 in
theorem i_M_min {Xx0 : Int32} {Xx1 : Int32} {x0 : Int} {x1 : Int} {r0 : Int} (h : di_M_min x0 x1 = some r0) (hx0 : Xx0 = Int32.ofInt x0) (hx1 : Xx1 = Int32.ofInt x1) : dn_M_min Xx0 Xx1 = some (Int32.ofInt r0) := by
  subst hx0 hx1
  unfold di_M_min at h
  unfold dn_M_min
  obtain ⟨_, g1, h⟩ := bnd h
  obtain ⟨_, g2, h⟩ := bnd h
  by_cases hc3 : x1 < x0
  · have h := ite_t h hc3
    refine ite_gt (lt_i (x := x1) (y := x0) (rg_some g1) (rg_some g2) rfl rfl) hc3 ?_
    exact retp_i rfl h
  · have h := ite_f h hc3
    refine ite_gf (lt_i (x := x1) (y := x0) (rg_some g1) (rg_some g2) rfl rfl) hc3 ?_
    exact retp_i rfl h
set_option maxRecDepth 20000 in
theorem i_X_hasTimer {Xx1 : Int32} {x1 : Int} {z : MemI} {r0 : Int} {a0 : MemI} (h : di_X_hasTimer x1 z = some (r0, a0)) (hx1 : Xx1 = Int32.ofInt x1) : dn_X_hasTimer Xx1 (EE z) = some (Int32.ofInt r0, EE a0) := by
  subst hx1
  unfold di_X_hasTimer at h
  unfold dn_X_hasTimer
  obtain ⟨j1, ej1, h⟩ := bnd h
  refine bnd_i (aix_i (by decide) ej1 rfl) ?_
  obtain ⟨_, g1, h⟩ := bnd h
  by_cases hc2 : (z.1 13 0 j1) = (4 : Int)
  · have h := ite_t h hc2
    refine ite_gt (eq_i (x := (z.1 13 0 j1)) (y := (4 : Int)) (rg_some g1) (by decide) rfl l32_4) hc2 ?_
    obtain ⟨_, g3, h⟩ := bnd h
    refine bnd_i (bz_i g3 l32_1) ?_
    exact ret_i l32_1 h
  · have h := ite_f h hc2
    refine ite_gf (eq_i (x := (z.1 13 0 j1)) (y := (4 : Int)) (rg_some g1) (by decide) rfl l32_4) hc2 ?_
    obtain ⟨_, g4, h⟩ := bnd h
    refine bnd_i (bz_i g4 l32_0) ?_
    exact ret_i l32_0 h
set_option maxRecDepth 20000 in
theorem i_K_enter {Xx1 : Int32} {Xx2 : Int32} {Xx3 : Int32} {x0 : Nat} {x1 : Int} {x2 : Int} {x3 : Int} {x4 : Nat} {z : MemI} {a0 : MemI} (h : di_K_enter x0 x1 x2 x3 x4 z = some a0) (hx1 : Xx1 = Int32.ofInt x1) (hx2 : Xx2 = Int32.ofInt x2) (hx3 : Xx3 = Int32.ofInt x3) : dn_K_enter x0 Xx1 Xx2 Xx3 x4 (EE z) = some (EE a0) := by
  subst hx1 hx2 hx3
  unfold di_K_enter at h
  unfold dn_K_enter
  obtain ⟨_, g1, h⟩ := bnd h
  refine bnd_i (bz_i g1 l32_1) ?_
  obtain ⟨z2, ez2, h⟩ := stN_o h
  refine stM_i (pI_i ez2 l32_1) ?_
  obtain ⟨_, g2, h⟩ := bnd h
  refine bnd_i (bz_i g2 rfl) ?_
  obtain ⟨z4, ez4, h⟩ := stN_o h
  refine stM_i (pI_i ez4 rfl) ?_
  obtain ⟨z5, ez5, h⟩ := stN_o h
  refine stM_i (pI_i ez5 rfl) ?_
  obtain ⟨z6, ez6, h⟩ := stN_o h
  refine stM_i (pI_i ez6 rfl) ?_
  obtain ⟨_, g3, h⟩ := bnd h
  by_cases hc4 : x3 = (0 : Int)
  · have h := ite_t h hc4
    refine ite_gt (eq_i (x := x3) (y := (0 : Int)) (rg_some g3) (by decide) rfl l32_0) hc4 ?_
    obtain ⟨z7, ez7, h⟩ := stN_o h
    refine stM_i (pI_i ez7 rfl) ?_
    by_cases hc5 : x3 = (0 : Int)
    · have h := ite_t h hc5
      refine ite_gt (eq_i (x := x3) (y := (0 : Int)) (rg_some g3) (by decide) rfl l32_0) hc5 ?_
      obtain ⟨z8, ez8, h⟩ := stN_o h
      refine stM_i (pI_i ez8 rfl) ?_
      exact retv_i h
    · have h := ite_f h hc5
      refine ite_gf (eq_i (x := x3) (y := (0 : Int)) (rg_some g3) (by decide) rfl l32_0) hc5 ?_
      obtain ⟨z9, ez9, h⟩ := stN_o h
      refine stM_i (pI_i ez9 rfl) ?_
      exact retv_i h
  · have h := ite_f h hc4
    refine ite_gf (eq_i (x := x3) (y := (0 : Int)) (rg_some g3) (by decide) rfl l32_0) hc4 ?_
    obtain ⟨z10, ez10, h⟩ := stN_o h
    refine stM_i (pI_i ez10 l32_1) ?_
    by_cases hc6 : x3 = (0 : Int)
    · have h := ite_t h hc6
      refine ite_gt (eq_i (x := x3) (y := (0 : Int)) (rg_some g3) (by decide) rfl l32_0) hc6 ?_
      obtain ⟨z11, ez11, h⟩ := stN_o h
      refine stM_i (pI_i ez11 rfl) ?_
      exact retv_i h
    · have h := ite_f h hc6
      refine ite_gf (eq_i (x := x3) (y := (0 : Int)) (rg_some g3) (by decide) rfl l32_0) hc6 ?_
      obtain ⟨z12, ez12, h⟩ := stN_o h
      refine stM_i (pI_i ez12 rfl) ?_
      exact retv_i h
set_option maxRecDepth 20000 in
theorem i_X_make_18 {Kk38 : Int32 → Int32 → Int32 → Int32 → Mem → Option (Int32 × Mem)} {k38 : Int → Int → Int → Int → MemI → Option (Int × MemI)} {Kk66 : Int32 → Mem → Option (Int32 × Mem)} {k66 : Int → MemI → Option (Int × MemI)} {r0 : Int} {a0 : MemI}
    (hk38 : ∀ (Xy0 : Int32) (Xy1 : Int32) (Xy2 : Int32) (Xy3 : Int32) (y0 : Int) (y1 : Int) (y2 : Int) (y3 : Int) (y4 : MemI), k38 y0 y1 y2 y3 y4 = some (r0, a0) → Xy0 = Int32.ofInt y0 → Xy1 = Int32.ofInt y1 → Xy2 = Int32.ofInt y2 → Xy3 = Int32.ofInt y3 → Kk38 Xy0 Xy1 Xy2 Xy3 (EE y4) = some (Int32.ofInt r0, EE a0))
    (hk66 : ∀ (Xy0 : Int32) (y0 : Int) (y1 : MemI), k66 y0 y1 = some (r0, a0) → Xy0 = Int32.ofInt y0 → Kk66 Xy0 (EE y1) = some (Int32.ofInt r0, EE a0)) :
    ∀ (n : Nat) {Xx1 : Int32} {Xx2 : Int32} {Xx3 : Int32} {Xx4 : Int32} {x1 : Int} {x2 : Int} {x3 : Int} {x4 : Int} {z : MemI}, di_X_make_18 k38 k66 n x1 x2 x3 x4 z = some (r0, a0) → Xx1 = Int32.ofInt x1 → Xx2 = Int32.ofInt x2 → Xx3 = Int32.ofInt x3 → Xx4 = Int32.ofInt x4 → dn_X_make_18 Kk38 Kk66 n Xx1 Xx2 Xx3 Xx4 (EE z) = some (Int32.ofInt r0, EE a0) := by
  intro n
  induction n with
  | zero =>
    intro Xx1 Xx2 Xx3 Xx4 x1 x2 x3 x4 z h hx1 hx2 hx3 hx4
    cases h
  | succ n ih =>
    intro Xx1 Xx2 Xx3 Xx4 x1 x2 x3 x4 z h hx1 hx2 hx3 hx4
    subst hx1 hx2 hx3 hx4
    rw [di_X_make_18] at h
    rw [dn_X_make_18]
    obtain ⟨_, g1, h⟩ := bnd h
    by_cases hc2 : (64 : Int) ≤ x4
    · have h := ite_t h hc2
      refine ite_gt (le_i (x := (64 : Int)) (y := x4) (by decide) (rg_some g1) l32_64 rfl) hc2 ?_
      exact hk66 _ _ _ h rfl
    · have h := ite_f h hc2
      refine ite_gf (le_i (x := (64 : Int)) (y := x4) (by decide) (rg_some g1) l32_64 rfl) hc2 ?_
      obtain ⟨j3, ej3, h⟩ := bnd h
      refine bnd_i (aix_i (by decide) ej3 rfl) ?_
      obtain ⟨_, g3, h⟩ := bnd h
      by_cases hc4 : (z.1 11 j3 0) = (0 : Int)
      · have h := ite_t h hc4
        refine ite_gt (eq_i (x := (z.1 11 j3 0)) (y := (0 : Int)) (rg_some g3) (by decide) rfl l32_0) hc4 ?_
        exact hk38 _ _ _ _ _ _ _ _ _ h rfl rfl rfl rfl
      · have h := ite_f h hc4
        refine ite_gf (eq_i (x := (z.1 11 j3 0)) (y := (0 : Int)) (rg_some g3) (by decide) rfl l32_0) hc4 ?_
        exact ih h rfl rfl rfl (hAdd rfl l32_1)
set_option maxRecDepth 20000 in
theorem i_X_make {Xx1 : Int32} {Xx2 : Int32} {Xx3 : Int32} {x1 : Int} {x2 : Int} {x3 : Int} {z : MemI} {r0 : Int} {a0 : MemI} (h : di_X_make x1 x2 x3 z = some (r0, a0)) (hx1 : Xx1 = Int32.ofInt x1) (hx2 : Xx2 = Int32.ofInt x2) (hx3 : Xx3 = Int32.ofInt x3) : dn_X_make Xx1 Xx2 Xx3 (EE z) = some (Int32.ofInt r0, EE a0) := by
  subst hx1 hx2 hx3
  unfold di_X_make at h
  unfold dn_X_make
  obtain ⟨j1, ej1, h⟩ := bnd h
  refine bnd_i (aix_i (by decide) ej1 rfl) ?_
  obtain ⟨z2, ez2, h⟩ := stN_o h
  refine stM_i (pI_i ez2 (hAdd rfl l32_1)) ?_
  refine i_X_make_18 (fun Xx1 Xx2 Xx3 Xx4 x1 x2 x3 x4 z4 h hx1 hx2 hx3 hx4 => ?_) (fun Xx1 x1 z8 h hx1 => ?_) FU h rfl rfl rfl l32_0
  · subst hx1 hx2 hx3 hx4
    obtain ⟨j5, ej5, h⟩ := bnd h
    refine bnd_i (aix_i (by decide) ej5 rfl) ?_
    obtain ⟨j6, ej6, h⟩ := bnd h
    refine bnd_i (aix_i (by decide) ej6 rfl) ?_
    obtain ⟨z7, ez7, h⟩ := bnd h
    refine bnd_i (i_K_enter ez7 rfl rfl rfl) ?_
    exact ret_i rfl h
  · subst hx1
    obtain ⟨j9, ej9, h⟩ := bnd h
    refine bnd_i (aix_i (by decide) ej9 rfl) ?_
    obtain ⟨z10, ez10, h⟩ := stN_o h
    refine stM_i (pI_i ez10 (hAdd rfl l32_1)) ?_
    exact ret_i l32_m1 h
set_option maxRecDepth 20000 in
theorem i_X_way_35 {Kk91 : Int32 → Mem → Option (Int32 × Mem)} {k91 : Int → MemI → Option (Int × MemI)} {Kk99 : Mem → Option (Int32 × Mem)} {k99 : MemI → Option (Int × MemI)} {r0 : Int} {a0 : MemI}
    (hk91 : ∀ (Xy0 : Int32) (y0 : Int) (y1 : MemI), k91 y0 y1 = some (r0, a0) → Xy0 = Int32.ofInt y0 → Kk91 Xy0 (EE y1) = some (Int32.ofInt r0, EE a0))
    (hk99 : ∀ (y0 : MemI), k99 y0 = some (r0, a0) → Kk99 (EE y0) = some (Int32.ofInt r0, EE a0)) :
    ∀ (n : Nat) {Xx1 : Int32} {Xx2 : Int32} {Xx3 : Int32} {x1 : Int} {x2 : Int} {x3 : Int} {z : MemI}, di_X_way_35 k91 k99 n x1 x2 x3 z = some (r0, a0) → Xx1 = Int32.ofInt x1 → Xx2 = Int32.ofInt x2 → Xx3 = Int32.ofInt x3 → dn_X_way_35 Kk91 Kk99 n Xx1 Xx2 Xx3 (EE z) = some (Int32.ofInt r0, EE a0) := by
  intro n
  induction n with
  | zero =>
    intro Xx1 Xx2 Xx3 x1 x2 x3 z h hx1 hx2 hx3
    cases h
  | succ n ih =>
    intro Xx1 Xx2 Xx3 x1 x2 x3 z h hx1 hx2 hx3
    subst hx1 hx2 hx3
    rw [di_X_way_35] at h
    rw [dn_X_way_35]
    obtain ⟨_, g1, h⟩ := bnd h
    obtain ⟨_, g2, h⟩ := bnd h
    by_cases hc3 : ((2 : Int) * (z.1 0 0 6)) ≤ x3
    · have h := ite_t h hc3
      refine ite_gt (le_i (x := ((2 : Int) * (z.1 0 0 6))) (y := x3) (rg_some g1) (rg_some g2) (hMul l32_2 rfl) rfl) hc3 ?_
      exact hk99 _ h 
    · have h := ite_f h hc3
      refine ite_gf (le_i (x := ((2 : Int) * (z.1 0 0 6))) (y := x3) (rg_some g1) (rg_some g2) (hMul l32_2 rfl) rfl) hc3 ?_
      obtain ⟨j5, ej5, h⟩ := bnd h
      refine bnd_i (aix_i (by decide) ej5 rfl) ?_
      obtain ⟨_, g4, h⟩ := bnd h
      obtain ⟨_, g5, h⟩ := bnd h
      by_cases hc6 : (z.1 4 j5 0) = x1
      · have h := ite_t h hc6
        refine ite_gt (eq_i (x := (z.1 4 j5 0)) (y := x1) (rg_some g4) (rg_some g5) rfl rfl) hc6 ?_
        obtain ⟨j6, ej6, h⟩ := bnd h
        refine bnd_i (aix_i (by decide) ej6 rfl) ?_
        obtain ⟨j7, ej7, h⟩ := bnd h
        refine bnd_i (aix_i (by decide) ej7 rfl) ?_
        obtain ⟨j8, ej8, h⟩ := bnd h
        refine bnd_i (aix_i (by decide) ej8 rfl) ?_
        obtain ⟨j9, ej9, h⟩ := bnd h
        refine bnd_i (aix_i (by decide) ej9 rfl) ?_
        obtain ⟨_, g7, h⟩ := bnd h
        obtain ⟨_, g8, h⟩ := bnd h
        by_cases hc9 : ((z.1 4 j5 2) + (z.1 2 j6 j7)) = (z.1 2 j8 j9)
        · have h := ite_t h hc9
          refine ite_gt (eq_i (x := ((z.1 4 j5 2) + (z.1 2 j6 j7))) (y := (z.1 2 j8 j9)) (rg_some g7) (rg_some g8) (hAdd rfl rfl) rfl) hc9 ?_
          exact hk91 _ _ _ h rfl
        · have h := ite_f h hc9
          refine ite_gf (eq_i (x := ((z.1 4 j5 2) + (z.1 2 j6 j7))) (y := (z.1 2 j8 j9)) (rg_some g7) (rg_some g8) (hAdd rfl rfl) rfl) hc9 ?_
          exact ih h rfl rfl (hAdd rfl l32_1)
      · have h := ite_f h hc6
        refine ite_gf (eq_i (x := (z.1 4 j5 0)) (y := x1) (rg_some g4) (rg_some g5) rfl rfl) hc6 ?_
        exact ih h rfl rfl (hAdd rfl l32_1)
set_option maxRecDepth 20000 in
theorem i_X_way {Xx1 : Int32} {Xx2 : Int32} {x1 : Int} {x2 : Int} {z : MemI} {r0 : Int} {a0 : MemI} (h : di_X_way x1 x2 z = some (r0, a0)) (hx1 : Xx1 = Int32.ofInt x1) (hx2 : Xx2 = Int32.ofInt x2) : dn_X_way Xx1 Xx2 (EE z) = some (Int32.ofInt r0, EE a0) := by
  subst hx1 hx2
  unfold di_X_way at h
  unfold dn_X_way
  obtain ⟨v1, ev1, h⟩ := bnd h
  refine bnd_i (i_X_isNode ev1 rfl) ?_
  obtain ⟨_, g1, h⟩ := bnd h
  by_cases hc2 : v1 = (0 : Int)
  · have h := ite_t h hc2
    refine ite_gt (eq_i (x := v1) (y := (0 : Int)) (rg_some g1) (by decide) rfl l32_0) hc2 ?_
    exact ret_i l32_m1 h
  · have h := ite_f h hc2
    refine ite_gf (eq_i (x := v1) (y := (0 : Int)) (rg_some g1) (by decide) rfl l32_0) hc2 ?_
    obtain ⟨v2, ev2, h⟩ := bnd h
    refine bnd_i (i_X_isNode ev2 rfl) ?_
    obtain ⟨_, g3, h⟩ := bnd h
    by_cases hc4 : v2 = (0 : Int)
    · have h := ite_t h hc4
      refine ite_gt (eq_i (x := v2) (y := (0 : Int)) (rg_some g3) (by decide) rfl l32_0) hc4 ?_
      exact ret_i l32_m1 h
    · have h := ite_f h hc4
      refine ite_gf (eq_i (x := v2) (y := (0 : Int)) (rg_some g3) (by decide) rfl l32_0) hc4 ?_
      obtain ⟨_, g5, h⟩ := bnd h
      obtain ⟨_, g6, h⟩ := bnd h
      by_cases hc7 : x1 = x2
      · have h := ite_t h hc7
        refine ite_gt (eq_i (x := x1) (y := x2) (rg_some g5) (rg_some g6) rfl rfl) hc7 ?_
        exact ret_i l32_m1 h
      · have h := ite_f h hc7
        refine ite_gf (eq_i (x := x1) (y := x2) (rg_some g5) (rg_some g6) rfl rfl) hc7 ?_
        obtain ⟨j3, ej3, h⟩ := bnd h
        refine bnd_i (aix_i (by decide) ej3 rfl) ?_
        obtain ⟨j4, ej4, h⟩ := bnd h
        refine bnd_i (aix_i (by decide) ej4 rfl) ?_
        obtain ⟨_, g8, h⟩ := bnd h
        by_cases hc9 : (z.1 2 j3 j4) = (-1 : Int)
        · have h := ite_t h hc9
          refine ite_gt (eq_i (x := (z.1 2 j3 j4)) (y := (-1 : Int)) (rg_some g8) (by decide) rfl l32_m1) hc9 ?_
          exact ret_i l32_m1 h
        · have h := ite_f h hc9
          refine ite_gf (eq_i (x := (z.1 2 j3 j4)) (y := (-1 : Int)) (rg_some g8) (by decide) rfl l32_m1) hc9 ?_
          refine i_X_way_35 (fun Xx3 x3 z10 h hx3 => ?_) (fun z11 h  => ?_) FU h rfl rfl l32_0
          · subst hx3
            exact ret_i rfl h
          · exact ret_i l32_m1 h
set_option maxRecDepth 20000 in
theorem i_X_queuedOf_5 {Kk42 : Int32 → Mem → Option (Int32 × Mem)} {k42 : Int → MemI → Option (Int × MemI)} {r0 : Int} {a0 : MemI}
    (hk42 : ∀ (Xy0 : Int32) (y0 : Int) (y1 : MemI), k42 y0 y1 = some (r0, a0) → Xy0 = Int32.ofInt y0 → Kk42 Xy0 (EE y1) = some (Int32.ofInt r0, EE a0)) :
    ∀ (n : Nat) {Xx2 : Int32} {Xx3 : Int32} {Xx4 : Int32} {x1 : Nat} {x2 : Int} {x3 : Int} {x4 : Int} {z : MemI}, di_X_queuedOf_5 k42 n x1 x2 x3 x4 z = some (r0, a0) → Xx2 = Int32.ofInt x2 → Xx3 = Int32.ofInt x3 → Xx4 = Int32.ofInt x4 → dn_X_queuedOf_5 Kk42 n x1 Xx2 Xx3 Xx4 (EE z) = some (Int32.ofInt r0, EE a0) := by
  intro n
  induction n with
  | zero =>
    intro Xx2 Xx3 Xx4 x1 x2 x3 x4 z h hx2 hx3 hx4
    cases h
  | succ n ih =>
    intro Xx2 Xx3 Xx4 x1 x2 x3 x4 z h hx2 hx3 hx4
    subst hx2 hx3 hx4
    rw [di_X_queuedOf_5] at h
    rw [dn_X_queuedOf_5]
    obtain ⟨_, g1, h⟩ := bnd h
    obtain ⟨_, g2, h⟩ := bnd h
    by_cases hc3 : (z.1 4 x1 8) ≤ x4
    · have h := ite_t h hc3
      refine ite_gt (le_i (x := (z.1 4 x1 8)) (y := x4) (rg_some g1) (rg_some g2) rfl rfl) hc3 ?_
      exact hk42 _ _ _ h rfl
    · have h := ite_f h hc3
      refine ite_gf (le_i (x := (z.1 4 x1 8)) (y := x4) (rg_some g1) (rg_some g2) rfl rfl) hc3 ?_
      obtain ⟨j1, ej1, h⟩ := bnd h
      refine bnd_i (aix_i (by decide) ej1 rfl) ?_
      obtain ⟨j2, ej2, h⟩ := bnd h
      refine bnd_i (aix_i (by decide) ej2 rfl) ?_
      obtain ⟨_, g4, h⟩ := bnd h
      obtain ⟨_, g5, h⟩ := bnd h
      by_cases hc6 : (z.1 11 j2 2) = x2
      · have h := ite_t h hc6
        refine ite_gt (eq_i (x := (z.1 11 j2 2)) (y := x2) (rg_some g4) (rg_some g5) rfl rfl) hc6 ?_
        exact ih h rfl (hAdd rfl l32_1) (hAdd rfl l32_1)
      · have h := ite_f h hc6
        refine ite_gf (eq_i (x := (z.1 11 j2 2)) (y := x2) (rg_some g4) (rg_some g5) rfl rfl) hc6 ?_
        exact ih h rfl rfl (hAdd rfl l32_1)
set_option maxRecDepth 20000 in
theorem i_X_queuedOf {Xx2 : Int32} {x1 : Nat} {x2 : Int} {z : MemI} {r0 : Int} {a0 : MemI} (h : di_X_queuedOf x1 x2 z = some (r0, a0)) (hx2 : Xx2 = Int32.ofInt x2) : dn_X_queuedOf x1 Xx2 (EE z) = some (Int32.ofInt r0, EE a0) := by
  subst hx2
  unfold di_X_queuedOf at h
  unfold dn_X_queuedOf
  refine i_X_queuedOf_5 (fun Xx3 x3 z3 h hx3 => ?_) FU h rfl l32_0 l32_0
  · subst hx3
    exact ret_i rfl h
