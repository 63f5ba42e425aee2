set_option maxRecDepth 20000 in
theorem i_Y_link_131 {Kk167 : Mem → Option (Int32 × Mem)} {k167 : MemI → Option (Int × MemI)} {r0 : Int} {a0 : MemI}
    (hk167 : ∀ (y0 : MemI), k167 y0 = some (r0, a0) → Kk167 (EE y0) = some (Int32.ofInt r0, EE a0)) :
    ∀ (n : Nat) {Xx6 : Int32} {x6 : Int} {z : MemI}, di_Y_link_131 k167 n x6 z = some (r0, a0) → Xx6 = Int32.ofInt x6 → dn_Y_link_131 Kk167 n Xx6 (EE z) = some (Int32.ofInt r0, EE a0) := by
  intro n
  induction n with
  | zero =>
    intro Xx6 x6 z h hx6
    cases h
  | succ n ih =>
    intro Xx6 x6 z h hx6
    subst hx6
    rw [di_Y_link_131] at h
    rw [dn_Y_link_131]
    obtain ⟨_, g1, h⟩ := bnd h
    obtain ⟨_, g2, h⟩ := bnd h
    by_cases hc3 : (((2 : Int) * (z.1 0 0 0)) + (1 : Int)) < x6
    · have h := ite_t h hc3
      refine ite_gt (lt_i (x := (((2 : Int) * (z.1 0 0 0)) + (1 : Int))) (y := x6) (rg_some g1) (rg_some g2) (hAdd (hMul l32_2 rfl) l32_1) rfl) hc3 ?_
      exact hk167 _ h 
    · have h := ite_f h hc3
      refine ite_gf (lt_i (x := (((2 : Int) * (z.1 0 0 0)) + (1 : Int))) (y := x6) (rg_some g1) (rg_some g2) (hAdd (hMul l32_2 rfl) l32_1) rfl) hc3 ?_
      obtain ⟨j17, ej17, h⟩ := bnd h
      refine bnd_i (aix_i (by decide) ej17 rfl) ?_
      obtain ⟨z18, ez18, h⟩ := stN_o h
      refine stM_i (pI_i ez18 l32_8) ?_
      obtain ⟨j19, ej19, h⟩ := bnd h
      refine bnd_i (aix_i (by decide) ej19 rfl) ?_
      obtain ⟨z20, ez20, h⟩ := stN_o h
      refine stM_i (pI_i ez20 l32_4) ?_
      exact ih h (hAdd rfl l32_1)
set_option maxRecDepth 20000 in
theorem i_Y_link {Xx1 : Int32} {Xx2 : Int32} {Xx3 : Int32} {Xx4 : Int32} {Xx5 : Int32} {x1 : Int} {x2 : Int} {x3 : Int} {x4 : Int} {x5 : Int} {z : MemI} {r0 : Int} {a0 : MemI} (h : di_Y_link x1 x2 x3 x4 x5 z = some (r0, a0)) (hx1 : Xx1 = Int32.ofInt x1) (hx2 : Xx2 = Int32.ofInt x2) (hx3 : Xx3 = Int32.ofInt x3) (hx4 : Xx4 = Int32.ofInt x4) (hx5 : Xx5 = Int32.ofInt x5) : dn_Y_link Xx1 Xx2 Xx3 Xx4 Xx5 (EE z) = some (Int32.ofInt r0, EE a0) := by
  subst hx1 hx2 hx3 hx4 hx5
  unfold di_Y_link at h
  unfold dn_Y_link
  obtain ⟨_, g1, h⟩ := bnd h
  by_cases hc2 : (z.1 0 0 35) = (0 : Int)
  · have h := ite_t h hc2
    refine ite_gt (eq_i (x := (z.1 0 0 35)) (y := (0 : Int)) (rg_some g1) (by decide) rfl l32_0) hc2 ?_
    obtain ⟨_, g3, h⟩ := bnd h
    by_cases hc4 : (z.1 0 0 0) = (12 : Int)
    · have h := ite_t h hc4
      refine ite_gt (eq_i (x := (z.1 0 0 0)) (y := (12 : Int)) (rg_some g3) (by decide) rfl l32_12) hc4 ?_
      exact ret_i l32_m1 h
    · have h := ite_f h hc4
      refine ite_gf (eq_i (x := (z.1 0 0 0)) (y := (12 : Int)) (rg_some g3) (by decide) rfl l32_12) hc4 ?_
      obtain ⟨v1, ev1, h⟩ := bnd h
      refine bnd_i (i_Y_node ev1 rfl) ?_
      obtain ⟨_, g5, h⟩ := bnd h
      by_cases hc6 : v1 = (0 : Int)
      · have h := ite_t h hc6
        refine ite_gt (eq_i (x := v1) (y := (0 : Int)) (rg_some g5) (by decide) rfl l32_0) hc6 ?_
        exact ret_i l32_m1 h
      · have h := ite_f h hc6
        refine ite_gf (eq_i (x := v1) (y := (0 : Int)) (rg_some g5) (by decide) rfl l32_0) hc6 ?_
        obtain ⟨v2, ev2, h⟩ := bnd h
        refine bnd_i (i_Y_node ev2 rfl) ?_
        obtain ⟨_, g7, h⟩ := bnd h
        by_cases hc8 : v2 = (0 : Int)
        · have h := ite_t h hc8
          refine ite_gt (eq_i (x := v2) (y := (0 : Int)) (rg_some g7) (by decide) rfl l32_0) hc8 ?_
          exact ret_i l32_m1 h
        · have h := ite_f h hc8
          refine ite_gf (eq_i (x := v2) (y := (0 : Int)) (rg_some g7) (by decide) rfl l32_0) hc8 ?_
          obtain ⟨_, g9, h⟩ := bnd h
          obtain ⟨_, g10, h⟩ := bnd h
          by_cases hc11 : x1 = x2
          · have h := ite_t h hc11
            refine ite_gt (eq_i (x := x1) (y := x2) (rg_some g9) (rg_some g10) rfl rfl) hc11 ?_
            exact ret_i l32_m1 h
          · have h := ite_f h hc11
            refine ite_gf (eq_i (x := x1) (y := x2) (rg_some g9) (rg_some g10) rfl rfl) hc11 ?_
            obtain ⟨v3, ev3, h⟩ := bnd h
            refine bnd_i (i_Y_within ev3 rfl l32_1 l32_100) ?_
            obtain ⟨_, g12, h⟩ := bnd h
            by_cases hc13 : v3 = (0 : Int)
            · have h := ite_t h hc13
              refine ite_gt (eq_i (x := v3) (y := (0 : Int)) (rg_some g12) (by decide) rfl l32_0) hc13 ?_
              exact ret_i l32_m1 h
            · have h := ite_f h hc13
              refine ite_gf (eq_i (x := v3) (y := (0 : Int)) (rg_some g12) (by decide) rfl l32_0) hc13 ?_
              obtain ⟨v4, ev4, h⟩ := bnd h
              refine bnd_i (i_Y_within ev4 rfl l32_1 l32_16) ?_
              obtain ⟨_, g14, h⟩ := bnd h
              by_cases hc15 : v4 = (0 : Int)
              · have h := ite_t h hc15
                refine ite_gt (eq_i (x := v4) (y := (0 : Int)) (rg_some g14) (by decide) rfl l32_0) hc15 ?_
                exact ret_i l32_m1 h
              · have h := ite_f h hc15
                refine ite_gf (eq_i (x := v4) (y := (0 : Int)) (rg_some g14) (by decide) rfl l32_0) hc15 ?_
                obtain ⟨v5, ev5, h⟩ := bnd h
                refine bnd_i (i_Y_within ev5 rfl l32_0 l32_40) ?_
                obtain ⟨_, g16, h⟩ := bnd h
                by_cases hc17 : v5 = (0 : Int)
                · have h := ite_t h hc17
                  refine ite_gt (eq_i (x := v5) (y := (0 : Int)) (rg_some g16) (by decide) rfl l32_0) hc17 ?_
                  exact ret_i l32_m1 h
                · have h := ite_f h hc17
                  refine ite_gf (eq_i (x := v5) (y := (0 : Int)) (rg_some g16) (by decide) rfl l32_0) hc17 ?_
                  obtain ⟨j6, ej6, h⟩ := bnd h
                  refine bnd_i (aix_i (by decide) ej6 rfl) ?_
                  obtain ⟨z7, ez7, h⟩ := stN_o h
                  refine stM_i (pI_i ez7 rfl) ?_
                  obtain ⟨j8, ej8, h⟩ := bnd h
                  refine bnd_i (aix_i (by decide) ej8 rfl) ?_
                  obtain ⟨z9, ez9, h⟩ := stN_o h
                  refine stM_i (pI_i ez9 rfl) ?_
                  obtain ⟨j10, ej10, h⟩ := bnd h
                  refine bnd_i (aix_i (by decide) ej10 rfl) ?_
                  obtain ⟨z11, ez11, h⟩ := stN_o h
                  refine stM_i (pI_i ez11 rfl) ?_
                  obtain ⟨j12, ej12, h⟩ := bnd h
                  refine bnd_i (aix_i (by decide) ej12 rfl) ?_
                  obtain ⟨z13, ez13, h⟩ := stN_o h
                  refine stM_i (pI_i ez13 rfl) ?_
                  obtain ⟨j14, ej14, h⟩ := bnd h
                  refine bnd_i (aix_i (by decide) ej14 rfl) ?_
                  obtain ⟨z15, ez15, h⟩ := stN_o h
                  refine stM_i (pI_i ez15 rfl) ?_
                  obtain ⟨v16, ev16, h⟩ := stW_o h
                  refine stV_i (hEq ev16 (hMul l32_2 rfl)) ?_
                  refine i_Y_link_131 (fun z21 h  => ?_) FU h rfl
                  · obtain ⟨z22, ez22, h⟩ := stN_o h
                    refine stM_i (pI_i ez22 (hAdd rfl l32_1)) ?_
                    obtain ⟨z23, ez23, h⟩ := bnd h
                    refine bnd_i (i_Y_measure ez23 ) ?_
                    exact ret_i (hSub rfl l32_1) h
  · have h := ite_f h hc2
    refine ite_gf (eq_i (x := (z.1 0 0 35)) (y := (0 : Int)) (rg_some g1) (by decide) rfl l32_0) hc2 ?_
    exact ret_i l32_m1 h
set_option maxRecDepth 20000 in
theorem i_Y_isPort {Xx1 : Int32} {x1 : Int} {z : MemI} {r0 : Int} {a0 : MemI} (h : di_Y_isPort x1 z = some (r0, a0)) (hx1 : Xx1 = Int32.ofInt x1) : dn_Y_isPort Xx1 (EE z) = some (Int32.ofInt r0, EE a0) := by
  subst hx1
  unfold di_Y_isPort at h
  unfold dn_Y_isPort
  obtain ⟨_, g1, h⟩ := bnd h
  by_cases hc2 : x1 < (0 : Int)
  · have h := ite_t h hc2
    refine ite_gt (lt_i (x := x1) (y := (0 : Int)) (rg_some g1) (by decide) rfl l32_0) hc2 ?_
    obtain ⟨_, g3, h⟩ := bnd h
    refine bnd_i (bz_i g3 l32_0) ?_
    exact ret_i l32_0 h
  · have h := ite_f h hc2
    refine ite_gf (lt_i (x := x1) (y := (0 : Int)) (rg_some g1) (by decide) rfl l32_0) hc2 ?_
    obtain ⟨_, g4, h⟩ := bnd h
    by_cases hc5 : ((2 : Int) * (z.1 0 0 0)) ≤ x1
    · have h := ite_t h hc5
      refine ite_gt (le_i (x := ((2 : Int) * (z.1 0 0 0))) (y := x1) (rg_some g4) (rg_some g1) (hMul l32_2 rfl) rfl) hc5 ?_
      obtain ⟨_, g6, h⟩ := bnd h
      refine bnd_i (bz_i g6 l32_0) ?_
      exact ret_i l32_0 h
    · have h := ite_f h hc5
      refine ite_gf (le_i (x := ((2 : Int) * (z.1 0 0 0))) (y := x1) (rg_some g4) (rg_some g1) (hMul l32_2 rfl) rfl) hc5 ?_
      obtain ⟨_, g7, h⟩ := bnd h
      refine bnd_i (bz_i g7 l32_1) ?_
      exact ret_i l32_1 h
set_option maxRecDepth 20000 in
theorem i_Y_isFlow {Xx1 : Int32} {x1 : Int} {z : MemI} {r0 : Int} {a0 : MemI} (h : di_Y_isFlow x1 z = some (r0, a0)) (hx1 : Xx1 = Int32.ofInt x1) : dn_Y_isFlow Xx1 (EE z) = some (Int32.ofInt r0, EE a0) := by
  subst hx1
  unfold di_Y_isFlow at h
  unfold dn_Y_isFlow
  obtain ⟨_, g1, h⟩ := bnd h
  by_cases hc2 : x1 < (0 : Int)
  · have h := ite_t h hc2
    refine ite_gt (lt_i (x := x1) (y := (0 : Int)) (rg_some g1) (by decide) rfl l32_0) hc2 ?_
    obtain ⟨_, g3, h⟩ := bnd h
    refine bnd_i (bz_i g3 l32_0) ?_
    exact ret_i l32_0 h
  · have h := ite_f h hc2
    refine ite_gf (lt_i (x := x1) (y := (0 : Int)) (rg_some g1) (by decide) rfl l32_0) hc2 ?_
    obtain ⟨_, g4, h⟩ := bnd h
    by_cases hc5 : (z.1 0 0 9) ≤ x1
    · have h := ite_t h hc5
      refine ite_gt (le_i (x := (z.1 0 0 9)) (y := x1) (rg_some g4) (rg_some g1) rfl rfl) hc5 ?_
      obtain ⟨_, g6, h⟩ := bnd h
      refine bnd_i (bz_i g6 l32_0) ?_
      exact ret_i l32_0 h
    · have h := ite_f h hc5
      refine ite_gf (le_i (x := (z.1 0 0 9)) (y := x1) (rg_some g4) (rg_some g1) rfl rfl) hc5 ?_
      obtain ⟨_, g7, h⟩ := bnd h
      refine bnd_i (bz_i g7 l32_1) ?_
      exact ret_i l32_1 h
set_option maxRecDepth 20000 in
theorem i_Y_shape {Xx1 : Int32} {Xx2 : Int32} {Xx3 : Int32} {x1 : Int} {x2 : Int} {x3 : Int} {z : MemI} {r0 : Int} {a0 : MemI} (h : di_Y_shape x1 x2 x3 z = some (r0, a0)) (hx1 : Xx1 = Int32.ofInt x1) (hx2 : Xx2 = Int32.ofInt x2) (hx3 : Xx3 = Int32.ofInt x3) : dn_Y_shape Xx1 Xx2 Xx3 (EE z) = some (Int32.ofInt r0, EE a0) := by
  subst hx1 hx2 hx3
  unfold di_Y_shape at h
  unfold dn_Y_shape
  obtain ⟨_, g1, h⟩ := bnd h
  by_cases hc2 : (z.1 0 0 35) = (0 : Int)
  · have h := ite_t h hc2
    refine ite_gt (eq_i (x := (z.1 0 0 35)) (y := (0 : Int)) (rg_some g1) (by decide) rfl l32_0) hc2 ?_
    obtain ⟨⟨v2, z2⟩, er2, h⟩ := bnd h
    refine bnd_i (i_Y_isPort er2 rfl) ?_
    obtain ⟨_, g3, h⟩ := bnd h
    by_cases hc4 : v2 = (0 : Int)
    · have h := ite_t h hc4
      refine ite_gt (eq_i (x := v2) (y := (0 : Int)) (rg_some g3) (by decide) rfl l32_0) hc4 ?_
      obtain ⟨_, g5, h⟩ := bnd h
      refine bnd_i (bz_i g5 l32_0) ?_
      exact ret_i l32_0 h
    · have h := ite_f h hc4
      refine ite_gf (eq_i (x := v2) (y := (0 : Int)) (rg_some g3) (by decide) rfl l32_0) hc4 ?_
      obtain ⟨v4, ev4, h⟩ := bnd h
      refine bnd_i (i_Y_within ev4 rfl l32_1 l32_16) ?_
      obtain ⟨_, g6, h⟩ := bnd h
      by_cases hc7 : v4 = (0 : Int)
      · have h := ite_t h hc7
        refine ite_gt (eq_i (x := v4) (y := (0 : Int)) (rg_some g6) (by decide) rfl l32_0) hc7 ?_
        obtain ⟨_, g8, h⟩ := bnd h
        refine bnd_i (bz_i g8 l32_0) ?_
        exact ret_i l32_0 h
      · have h := ite_f h hc7
        refine ite_gf (eq_i (x := v4) (y := (0 : Int)) (rg_some g6) (by decide) rfl l32_0) hc7 ?_
        obtain ⟨v6, ev6, h⟩ := bnd h
        refine bnd_i (i_Y_within ev6 rfl l32_1 l32_8) ?_
        obtain ⟨_, g9, h⟩ := bnd h
        by_cases hc10 : v6 = (0 : Int)
        · have h := ite_t h hc10
          refine ite_gt (eq_i (x := v6) (y := (0 : Int)) (rg_some g9) (by decide) rfl l32_0) hc10 ?_
          obtain ⟨_, g11, h⟩ := bnd h
          refine bnd_i (bz_i g11 l32_0) ?_
          exact ret_i l32_0 h
        · have h := ite_f h hc10
          refine ite_gf (eq_i (x := v6) (y := (0 : Int)) (rg_some g9) (by decide) rfl l32_0) hc10 ?_
          obtain ⟨j7, ej7, h⟩ := bnd h
          refine bnd_i (aix_i (by decide) ej7 rfl) ?_
          obtain ⟨z8, ez8, h⟩ := stN_o h
          refine stM_i (pI_i ez8 rfl) ?_
          obtain ⟨j9, ej9, h⟩ := bnd h
          refine bnd_i (aix_i (by decide) ej9 rfl) ?_
          obtain ⟨z10, ez10, h⟩ := stN_o h
          refine stM_i (pI_i ez10 rfl) ?_
          obtain ⟨_, g12, h⟩ := bnd h
          refine bnd_i (bz_i g12 l32_1) ?_
          exact ret_i l32_1 h
  · have h := ite_f h hc2
    refine ite_gf (eq_i (x := (z.1 0 0 35)) (y := (0 : Int)) (rg_some g1) (by decide) rfl l32_0) hc2 ?_
    obtain ⟨_, g13, h⟩ := bnd h
    refine bnd_i (bz_i g13 l32_0) ?_
    exact ret_i l32_0 h
set_option maxRecDepth 20000 in
theorem i_Y_flow_183 {Kk210 : Mem → Option (Int32 × Mem)} {k210 : MemI → Option (Int × MemI)} {r0 : Int} {a0 : MemI}
    (hk210 : ∀ (y0 : MemI), k210 y0 = some (r0, a0) → Kk210 (EE y0) = some (Int32.ofInt r0, EE a0)) :
    ∀ (n : Nat) {Xx5 : Int32} {x5 : Int} {z : MemI}, di_Y_flow_183 k210 n x5 z = some (r0, a0) → Xx5 = Int32.ofInt x5 → dn_Y_flow_183 Kk210 n Xx5 (EE z) = some (Int32.ofInt r0, EE a0) := by
  intro n
  induction n with
  | zero =>
    intro Xx5 x5 z h hx5
    cases h
  | succ n ih =>
    intro Xx5 x5 z h hx5
    subst hx5
    rw [di_Y_flow_183] at h
    rw [dn_Y_flow_183]
    obtain ⟨_, g1, h⟩ := bnd h
    by_cases hc2 : (4 : Int) ≤ x5
    · have h := ite_t h hc2
      refine ite_gt (le_i (x := (4 : Int)) (y := x5) (by decide) (rg_some g1) l32_4 rfl) hc2 ?_
      exact hk210 _ h 
    · have h := ite_f h hc2
      refine ite_gf (le_i (x := (4 : Int)) (y := x5) (by decide) (rg_some g1) l32_4 rfl) hc2 ?_
      obtain ⟨j29, ej29, h⟩ := bnd h
      refine bnd_i (aix_i (by decide) ej29 (hAdd (hMul l32_4 rfl) rfl)) ?_
      obtain ⟨z30, ez30, h⟩ := stN_o h
      refine stM_i (pI_i ez30 l32_0) ?_
      exact ih h (hAdd rfl l32_1)
set_option maxRecDepth 20000 in
theorem i_Y_flow {Xx1 : Int32} {Xx2 : Int32} {Xx3 : Int32} {Xx4 : Int32} {x1 : Int} {x2 : Int} {x3 : Int} {x4 : Int} {z : MemI} {r0 : Int} {a0 : MemI} (h : di_Y_flow x1 x2 x3 x4 z = some (r0, a0)) (hx1 : Xx1 = Int32.ofInt x1) (hx2 : Xx2 = Int32.ofInt x2) (hx3 : Xx3 = Int32.ofInt x3) (hx4 : Xx4 = Int32.ofInt x4) : dn_Y_flow Xx1 Xx2 Xx3 Xx4 (EE z) = some (Int32.ofInt r0, EE a0) := by
  subst hx1 hx2 hx3 hx4
  unfold di_Y_flow at h
  unfold dn_Y_flow
  obtain ⟨_, g1, h⟩ := bnd h
  by_cases hc2 : (z.1 0 0 35) = (0 : Int)
  · have h := ite_t h hc2
    refine ite_gt (eq_i (x := (z.1 0 0 35)) (y := (0 : Int)) (rg_some g1) (by decide) rfl l32_0) hc2 ?_
    obtain ⟨_, g3, h⟩ := bnd h
    by_cases hc4 : (z.1 0 0 9) = (6 : Int)
    · have h := ite_t h hc4
      refine ite_gt (eq_i (x := (z.1 0 0 9)) (y := (6 : Int)) (rg_some g3) (by decide) rfl l32_6) hc4 ?_
      exact ret_i l32_m1 h
    · have h := ite_f h hc4
      refine ite_gf (eq_i (x := (z.1 0 0 9)) (y := (6 : Int)) (rg_some g3) (by decide) rfl l32_6) hc4 ?_
      obtain ⟨v1, ev1, h⟩ := bnd h
      refine bnd_i (i_Y_node ev1 rfl) ?_
      obtain ⟨_, g5, h⟩ := bnd h
      by_cases hc6 : v1 = (0 : Int)
      · have h := ite_t h hc6
        refine ite_gt (eq_i (x := v1) (y := (0 : Int)) (rg_some g5) (by decide) rfl l32_0) hc6 ?_
        exact ret_i l32_m1 h
      · have h := ite_f h hc6
        refine ite_gf (eq_i (x := v1) (y := (0 : Int)) (rg_some g5) (by decide) rfl l32_0) hc6 ?_
        obtain ⟨v2, ev2, h⟩ := bnd h
        refine bnd_i (i_Y_node ev2 rfl) ?_
        obtain ⟨_, g7, h⟩ := bnd h
        by_cases hc8 : v2 = (0 : Int)
        · have h := ite_t h hc8
          refine ite_gt (eq_i (x := v2) (y := (0 : Int)) (rg_some g7) (by decide) rfl l32_0) hc8 ?_
          exact ret_i l32_m1 h
        · have h := ite_f h hc8
          refine ite_gf (eq_i (x := v2) (y := (0 : Int)) (rg_some g7) (by decide) rfl l32_0) hc8 ?_
          obtain ⟨_, g9, h⟩ := bnd h
          obtain ⟨_, g10, h⟩ := bnd h
          by_cases hc11 : x1 = x2
          · have h := ite_t h hc11
            refine ite_gt (eq_i (x := x1) (y := x2) (rg_some g9) (rg_some g10) rfl rfl) hc11 ?_
            exact ret_i l32_m1 h
          · have h := ite_f h hc11
            refine ite_gf (eq_i (x := x1) (y := x2) (rg_some g9) (rg_some g10) rfl rfl) hc11 ?_
            obtain ⟨v3, ev3, h⟩ := bnd h
            refine bnd_i (i_Y_within ev3 rfl l32_1 l32_100) ?_
            obtain ⟨_, g12, h⟩ := bnd h
            by_cases hc13 : v3 = (0 : Int)
            · have h := ite_t h hc13
              refine ite_gt (eq_i (x := v3) (y := (0 : Int)) (rg_some g12) (by decide) rfl l32_0) hc13 ?_
              exact ret_i l32_m1 h
            · have h := ite_f h hc13
              refine ite_gf (eq_i (x := v3) (y := (0 : Int)) (rg_some g12) (by decide) rfl l32_0) hc13 ?_
              obtain ⟨v4, ev4, h⟩ := bnd h
              refine bnd_i (i_Y_within ev4 rfl l32_1 l32_8) ?_
              obtain ⟨_, g14, h⟩ := bnd h
              by_cases hc15 : v4 = (0 : Int)
              · have h := ite_t h hc15
                refine ite_gt (eq_i (x := v4) (y := (0 : Int)) (rg_some g14) (by decide) rfl l32_0) hc15 ?_
                exact ret_i l32_m1 h
              · have h := ite_f h hc15
                refine ite_gf (eq_i (x := v4) (y := (0 : Int)) (rg_some g14) (by decide) rfl l32_0) hc15 ?_
                obtain ⟨j5, ej5, h⟩ := bnd h
                refine bnd_i (aix_i (by decide) ej5 rfl) ?_
                obtain ⟨z6, ez6, h⟩ := stN_o h
                refine stM_i (pI_i ez6 rfl) ?_
                obtain ⟨j7, ej7, h⟩ := bnd h
                refine bnd_i (aix_i (by decide) ej7 rfl) ?_
                obtain ⟨z8, ez8, h⟩ := stN_o h
                refine stM_i (pI_i ez8 rfl) ?_
                obtain ⟨j9, ej9, h⟩ := bnd h
                refine bnd_i (aix_i (by decide) ej9 rfl) ?_
                obtain ⟨z10, ez10, h⟩ := stN_o h
                refine stM_i (pI_i ez10 rfl) ?_
                obtain ⟨j11, ej11, h⟩ := bnd h
                refine bnd_i (aix_i (by decide) ej11 rfl) ?_
                obtain ⟨z12, ez12, h⟩ := stN_o h
                refine stM_i (pI_i ez12 rfl) ?_
                obtain ⟨j13, ej13, h⟩ := bnd h
                refine bnd_i (aix_i (by decide) ej13 rfl) ?_
                obtain ⟨z14, ez14, h⟩ := stN_o h
                refine stM_i (pI_i ez14 l32_4) ?_
                obtain ⟨j15, ej15, h⟩ := bnd h
                refine bnd_i (aix_i (by decide) ej15 rfl) ?_
                obtain ⟨z16, ez16, h⟩ := stN_o h
                refine stM_i (pI_i ez16 l32_100) ?_
                obtain ⟨j17, ej17, h⟩ := bnd h
                refine bnd_i (aix_i (by decide) ej17 rfl) ?_
                obtain ⟨z18, ez18, h⟩ := stN_o h
                refine stM_i (pI_i ez18 l32_0) ?_
                obtain ⟨j19, ej19, h⟩ := bnd h
                refine bnd_i (aix_i (by decide) ej19 rfl) ?_
                obtain ⟨z20, ez20, h⟩ := stN_o h
                refine stM_i (pI_i ez20 l32_0) ?_
                obtain ⟨j21, ej21, h⟩ := bnd h
                refine bnd_i (aix_i (by decide) ej21 rfl) ?_
                obtain ⟨z22, ez22, h⟩ := stN_o h
                refine stM_i (pI_i ez22 l32_0) ?_
                obtain ⟨j23, ej23, h⟩ := bnd h
                refine bnd_i (aix_i (by decide) ej23 rfl) ?_
                obtain ⟨z24, ez24, h⟩ := stN_o h
                refine stM_i (pI_i ez24 l32_0) ?_
                obtain ⟨j25, ej25, h⟩ := bnd h
                refine bnd_i (aix_i (by decide) ej25 rfl) ?_
                obtain ⟨z26, ez26, h⟩ := stN_o h
                refine stM_i (pI_i ez26 l32_m1) ?_
                obtain ⟨j27, ej27, h⟩ := bnd h
                refine bnd_i (aix_i (by decide) ej27 rfl) ?_
                obtain ⟨z28, ez28, h⟩ := stN_o h
                refine stM_i (pI_i ez28 l32_m1) ?_
                refine i_Y_flow_183 (fun z31 h  => ?_) FU h l32_0
                · obtain ⟨z32, ez32, h⟩ := stN_o h
                  refine stM_i (pI_i ez32 (hAdd rfl l32_1)) ?_
                  exact ret_i (hSub rfl l32_1) h
  · have h := ite_f h hc2
    refine ite_gf (eq_i (x := (z.1 0 0 35)) (y := (0 : Int)) (rg_some g1) (by decide) rfl l32_0) hc2 ?_
    exact ret_i l32_m1 h
set_option maxRecDepth 20000 in
theorem i_Y_tune {Xx1 : Int32} {Xx2 : Int32} {Xx3 : Int32} {Xx4 : Int32} {x1 : Int} {x2 : Int} {x3 : Int} {x4 : Int} {z : MemI} {r0 : Int} {a0 : MemI} (h : di_Y_tune x1 x2 x3 x4 z = some (r0, a0)) (hx1 : Xx1 = Int32.ofInt x1) (hx2 : Xx2 = Int32.ofInt x2) (hx3 : Xx3 = Int32.ofInt x3) (hx4 : Xx4 = Int32.ofInt x4) : dn_Y_tune Xx1 Xx2 Xx3 Xx4 (EE z) = some (Int32.ofInt r0, EE a0) := by
  subst hx1 hx2 hx3 hx4
  unfold di_Y_tune at h
  unfold dn_Y_tune
  obtain ⟨_, g1, h⟩ := bnd h
  by_cases hc2 : (z.1 0 0 35) = (0 : Int)
  · have h := ite_t h hc2
    refine ite_gt (eq_i (x := (z.1 0 0 35)) (y := (0 : Int)) (rg_some g1) (by decide) rfl l32_0) hc2 ?_
    obtain ⟨⟨v2, z2⟩, er2, h⟩ := bnd h
    refine bnd_i (i_Y_isFlow er2 rfl) ?_
    obtain ⟨_, g3, h⟩ := bnd h
    by_cases hc4 : v2 = (0 : Int)
    · have h := ite_t h hc4
      refine ite_gt (eq_i (x := v2) (y := (0 : Int)) (rg_some g3) (by decide) rfl l32_0) hc4 ?_
      obtain ⟨_, g5, h⟩ := bnd h
      refine bnd_i (bz_i g5 l32_0) ?_
      exact ret_i l32_0 h
    · have h := ite_f h hc4
      refine ite_gf (eq_i (x := v2) (y := (0 : Int)) (rg_some g3) (by decide) rfl l32_0) hc4 ?_
      obtain ⟨v4, ev4, h⟩ := bnd h
      refine bnd_i (i_Y_within ev4 rfl l32_1 l32_8) ?_
      obtain ⟨_, g6, h⟩ := bnd h
      by_cases hc7 : v4 = (0 : Int)
      · have h := ite_t h hc7
        refine ite_gt (eq_i (x := v4) (y := (0 : Int)) (rg_some g6) (by decide) rfl l32_0) hc7 ?_
        obtain ⟨_, g8, h⟩ := bnd h
        refine bnd_i (bz_i g8 l32_0) ?_
        exact ret_i l32_0 h
      · have h := ite_f h hc7
        refine ite_gf (eq_i (x := v4) (y := (0 : Int)) (rg_some g6) (by decide) rfl l32_0) hc7 ?_
        obtain ⟨v6, ev6, h⟩ := bnd h
        refine bnd_i (i_Y_within ev6 rfl l32_1 l32_200) ?_
        obtain ⟨_, g9, h⟩ := bnd h
        by_cases hc10 : v6 = (0 : Int)
        · have h := ite_t h hc10
          refine ite_gt (eq_i (x := v6) (y := (0 : Int)) (rg_some g9) (by decide) rfl l32_0) hc10 ?_
          obtain ⟨_, g11, h⟩ := bnd h
          refine bnd_i (bz_i g11 l32_0) ?_
          exact ret_i l32_0 h
        · have h := ite_f h hc10
          refine ite_gf (eq_i (x := v6) (y := (0 : Int)) (rg_some g9) (by decide) rfl l32_0) hc10 ?_
          obtain ⟨v8, ev8, h⟩ := bnd h
          refine bnd_i (i_Y_within ev8 rfl l32_0 l32_1000) ?_
          obtain ⟨_, g12, h⟩ := bnd h
          by_cases hc13 : v8 = (0 : Int)
          · have h := ite_t h hc13
            refine ite_gt (eq_i (x := v8) (y := (0 : Int)) (rg_some g12) (by decide) rfl l32_0) hc13 ?_
            obtain ⟨_, g14, h⟩ := bnd h
            refine bnd_i (bz_i g14 l32_0) ?_
            exact ret_i l32_0 h
          · have h := ite_f h hc13
            refine ite_gf (eq_i (x := v8) (y := (0 : Int)) (rg_some g12) (by decide) rfl l32_0) hc13 ?_
            obtain ⟨j9, ej9, h⟩ := bnd h
            refine bnd_i (aix_i (by decide) ej9 rfl) ?_
            obtain ⟨z10, ez10, h⟩ := stN_o h
            refine stM_i (pI_i ez10 rfl) ?_
            obtain ⟨j11, ej11, h⟩ := bnd h
            refine bnd_i (aix_i (by decide) ej11 rfl) ?_
            obtain ⟨z12, ez12, h⟩ := stN_o h
            refine stM_i (pI_i ez12 rfl) ?_
            obtain ⟨j13, ej13, h⟩ := bnd h
            refine bnd_i (aix_i (by decide) ej13 rfl) ?_
            obtain ⟨z14, ez14, h⟩ := stN_o h
            refine stM_i (pI_i ez14 rfl) ?_
            obtain ⟨_, g15, h⟩ := bnd h
            refine bnd_i (bz_i g15 l32_1) ?_
            exact ret_i l32_1 h
  · have h := ite_f h hc2
    refine ite_gf (eq_i (x := (z.1 0 0 35)) (y := (0 : Int)) (rg_some g1) (by decide) rfl l32_0) hc2 ?_
    obtain ⟨_, g16, h⟩ := bnd h
    refine bnd_i (bz_i g16 l32_0) ?_
    exact ret_i l32_0 h
set_option maxRecDepth 20000 in
theorem i_Y_distance {Xx1 : Int32} {Xx2 : Int32} {x1 : Int} {x2 : Int} {z : MemI} {r0 : Int} {a0 : MemI} (h : di_Y_distance x1 x2 z = some (r0, a0)) (hx1 : Xx1 = Int32.ofInt x1) (hx2 : Xx2 = Int32.ofInt x2) : dn_Y_distance Xx1 Xx2 (EE z) = some (Int32.ofInt r0, EE a0) := by
  subst hx1 hx2
  unfold di_Y_distance at h
  unfold dn_Y_distance
  obtain ⟨v1, ev1, h⟩ := bnd h
  refine bnd_i (i_Y_node ev1 rfl) ?_
  obtain ⟨_, g1, h⟩ := bnd h
  by_cases hc2 : v1 = (0 : Int)
  · have h := ite_t h hc2
    refine ite_gt (eq_i (x := v1) (y := (0 : Int)) (rg_some g1) (by decide) rfl l32_0) hc2 ?_
    exact ret_i l32_m1 h
  · have h := ite_f h hc2
    refine ite_gf (eq_i (x := v1) (y := (0 : Int)) (rg_some g1) (by decide) rfl l32_0) hc2 ?_
    obtain ⟨v2, ev2, h⟩ := bnd h
    refine bnd_i (i_Y_node ev2 rfl) ?_
    obtain ⟨_, g3, h⟩ := bnd h
    by_cases hc4 : v2 = (0 : Int)
    · have h := ite_t h hc4
      refine ite_gt (eq_i (x := v2) (y := (0 : Int)) (rg_some g3) (by decide) rfl l32_0) hc4 ?_
      exact ret_i l32_m1 h
    · have h := ite_f h hc4
      refine ite_gf (eq_i (x := v2) (y := (0 : Int)) (rg_some g3) (by decide) rfl l32_0) hc4 ?_
      obtain ⟨j3, ej3, h⟩ := bnd h
      refine bnd_i (aix_i (by decide) ej3 (hAdd (hMul l32_8 rfl) rfl)) ?_
      obtain ⟨_, g5, h⟩ := bnd h
      by_cases hc6 : (z.1 8 0 j3) < (1000000 : Int)
      · have h := ite_t h hc6
        refine ite_gt (lt_i (x := (z.1 8 0 j3)) (y := (1000000 : Int)) (rg_some g5) (by decide) rfl l32_1000000) hc6 ?_
        obtain ⟨j4, ej4, h⟩ := bnd h
        refine bnd_i (aix_i (by decide) ej4 (hAdd (hMul l32_8 rfl) rfl)) ?_
        exact ret_i rfl h
      · have h := ite_f h hc6
        refine ite_gf (lt_i (x := (z.1 8 0 j3)) (y := (1000000 : Int)) (rg_some g5) (by decide) rfl l32_1000000) hc6 ?_
        exact ret_i l32_m1 h
set_option maxRecDepth 20000 in
theorem i_Y_at {Xx1 : Int32} {x1 : Int} {z : MemI} {r0 : Int} {a0 : MemI} (h : di_Y_at x1 z = some (r0, a0)) (hx1 : Xx1 = Int32.ofInt x1) : dn_Y_at Xx1 (EE z) = some (Int32.ofInt r0, EE a0) := by
  subst hx1
  unfold di_Y_at at h
  unfold dn_Y_at
  obtain ⟨_, g1, h⟩ := bnd h
  obtain ⟨_, g2, h⟩ := bnd h
  by_cases hc3 : (x1 % (2 : Int)) = (0 : Int)
  · have h := ite_t h hc3
    refine ite_gt (eq_i (x := (x1 % (2 : Int))) (y := (0 : Int)) (rg_some g2) (by decide) (hMod (by decide) g1 rfl l32_2) l32_0) hc3 ?_
    obtain ⟨j2, ej2, h⟩ := bnd h
    refine bnd_i (aix_i (by decide) ej2 (hDiv (by decide) g1 rfl l32_2)) ?_
    exact ret_i rfl h
  · have h := ite_f h hc3
    refine ite_gf (eq_i (x := (x1 % (2 : Int))) (y := (0 : Int)) (rg_some g2) (by decide) (hMod (by decide) g1 rfl l32_2) l32_0) hc3 ?_
    obtain ⟨j1, ej1, h⟩ := bnd h
    refine bnd_i (aix_i (by decide) ej1 (hDiv (by decide) g1 rfl l32_2)) ?_
    exact ret_i rfl h
set_option maxRecDepth 20000 in
theorem i_Y_leads {Xx1 : Int32} {x1 : Int} {z : MemI} {r0 : Int} {a0 : MemI} (h : di_Y_leads x1 z = some (r0, a0)) (hx1 : Xx1 = Int32.ofInt x1) : dn_Y_leads Xx1 (EE z) = some (Int32.ofInt r0, EE a0) := by
  subst hx1
  unfold di_Y_leads at h
  unfold dn_Y_leads
  obtain ⟨_, g1, h⟩ := bnd h
  obtain ⟨_, g2, h⟩ := bnd h
  by_cases hc3 : (x1 % (2 : Int)) = (0 : Int)
  · have h := ite_t h hc3
    refine ite_gt (eq_i (x := (x1 % (2 : Int))) (y := (0 : Int)) (rg_some g2) (by decide) (hMod (by decide) g1 rfl l32_2) l32_0) hc3 ?_
    obtain ⟨j2, ej2, h⟩ := bnd h
    refine bnd_i (aix_i (by decide) ej2 (hDiv (by decide) g1 rfl l32_2)) ?_
    exact ret_i rfl h
  · have h := ite_f h hc3
    refine ite_gf (eq_i (x := (x1 % (2 : Int))) (y := (0 : Int)) (rg_some g2) (by decide) (hMod (by decide) g1 rfl l32_2) l32_0) hc3 ?_
    obtain ⟨j1, ej1, h⟩ := bnd h
    refine bnd_i (aix_i (by decide) ej1 (hDiv (by decide) g1 rfl l32_2)) ?_
    exact ret_i rfl h
set_option maxRecDepth 20000 in
theorem i_Y_way_19 {Kk76 : Int32 → Mem → Option (Int32 × Mem)} {k76 : Int → MemI → Option (Int × MemI)} {Kk84 : Mem → Option (Int32 × Mem)} {k84 : MemI → Option (Int × MemI)} {r0 : Int} {a0 : MemI}
    (hk76 : ∀ (Xy0 : Int32) (y0 : Int) (y1 : MemI), k76 y0 y1 = some (r0, a0) → Xy0 = Int32.ofInt y0 → Kk76 Xy0 (EE y1) = some (Int32.ofInt r0, EE a0))
    (hk84 : ∀ (y0 : MemI), k84 y0 = some (r0, a0) → Kk84 (EE y0) = some (Int32.ofInt r0, EE a0)) :
    ∀ (n : Nat) {Xx1 : Int32} {Xx2 : Int32} {Xx3 : Int32} {x1 : Int} {x2 : Int} {x3 : Int} {z : MemI}, di_Y_way_19 k76 k84 n x1 x2 x3 z = some (r0, a0) → Xx1 = Int32.ofInt x1 → Xx2 = Int32.ofInt x2 → Xx3 = Int32.ofInt x3 → dn_Y_way_19 Kk76 Kk84 n Xx1 Xx2 Xx3 (EE z) = some (Int32.ofInt r0, EE a0) := by
  intro n
  induction n with
  | zero =>
    intro Xx1 Xx2 Xx3 x1 x2 x3 z h hx1 hx2 hx3
    cases h
  | succ n ih =>
    intro Xx1 Xx2 Xx3 x1 x2 x3 z h hx1 hx2 hx3
    subst hx1 hx2 hx3
    rw [di_Y_way_19] at h
    rw [dn_Y_way_19]
    obtain ⟨_, g1, h⟩ := bnd h
    obtain ⟨_, g2, h⟩ := bnd h
    by_cases hc3 : ((2 : Int) * (z.1 0 0 0)) ≤ x3
    · have h := ite_t h hc3
      refine ite_gt (le_i (x := ((2 : Int) * (z.1 0 0 0))) (y := x3) (rg_some g1) (rg_some g2) (hMul l32_2 rfl) rfl) hc3 ?_
      exact hk84 _ h 
    · have h := ite_f h hc3
      refine ite_gf (le_i (x := ((2 : Int) * (z.1 0 0 0))) (y := x3) (rg_some g1) (rg_some g2) (hMul l32_2 rfl) rfl) hc3 ?_
      obtain ⟨⟨v2, z2⟩, er2, h⟩ := bnd h
      refine bnd_i (i_Y_at er2 rfl) ?_
      obtain ⟨_, g4, h⟩ := bnd h
      obtain ⟨_, g5, h⟩ := bnd h
      by_cases hc6 : v2 = x1
      · have h := ite_t h hc6
        refine ite_gt (eq_i (x := v2) (y := x1) (rg_some g4) (rg_some g5) rfl rfl) hc6 ?_
        obtain ⟨_, g7, h⟩ := bnd h
        obtain ⟨j3, ej3, h⟩ := bnd h
        refine bnd_i (aix_i (by decide) ej3 (hDiv (by decide) g7 rfl l32_2)) ?_
        obtain ⟨⟨v4, z4⟩, er4, h⟩ := bnd h
        refine bnd_i (i_Y_leads er4 rfl) ?_
        obtain ⟨j5, ej5, h⟩ := bnd h
        refine bnd_i (aix_i (by decide) ej5 (hAdd (hMul l32_8 rfl) rfl)) ?_
        obtain ⟨j6, ej6, h⟩ := bnd h
        refine bnd_i (aix_i (by decide) ej6 (hAdd (hMul l32_8 rfl) rfl)) ?_
        obtain ⟨_, g8, h⟩ := bnd h
        obtain ⟨_, g9, h⟩ := bnd h
        by_cases hc10 : ((z2.1 3 0 j3) + (z4.1 8 0 j5)) = (z4.1 8 0 j6)
        · have h := ite_t h hc10
          refine ite_gt (eq_i (x := ((z2.1 3 0 j3) + (z4.1 8 0 j5))) (y := (z4.1 8 0 j6)) (rg_some g8) (rg_some g9) (hAdd rfl rfl) rfl) hc10 ?_
          exact hk76 _ _ _ h rfl
        · have h := ite_f h hc10
          refine ite_gf (eq_i (x := ((z2.1 3 0 j3) + (z4.1 8 0 j5))) (y := (z4.1 8 0 j6)) (rg_some g8) (rg_some g9) (hAdd rfl rfl) rfl) hc10 ?_
          exact ih h rfl rfl (hAdd rfl l32_1)
      · have h := ite_f h hc6
        refine ite_gf (eq_i (x := v2) (y := x1) (rg_some g4) (rg_some g5) rfl rfl) hc6 ?_
        exact ih h rfl rfl (hAdd rfl l32_1)
set_option maxRecDepth 20000 in
theorem i_Y_way {Xx1 : Int32} {Xx2 : Int32} {x1 : Int} {x2 : Int} {z : MemI} {r0 : Int} {a0 : MemI} (h : di_Y_way x1 x2 z = some (r0, a0)) (hx1 : Xx1 = Int32.ofInt x1) (hx2 : Xx2 = Int32.ofInt x2) : dn_Y_way Xx1 Xx2 (EE z) = some (Int32.ofInt r0, EE a0) := by
  subst hx1 hx2
  unfold di_Y_way at h
  unfold dn_Y_way
  obtain ⟨_, g1, h⟩ := bnd h
  obtain ⟨_, g2, h⟩ := bnd h
  by_cases hc3 : x1 = x2
  · have h := ite_t h hc3
    refine ite_gt (eq_i (x := x1) (y := x2) (rg_some g1) (rg_some g2) rfl rfl) hc3 ?_
    exact ret_i l32_m1 h
  · have h := ite_f h hc3
    refine ite_gf (eq_i (x := x1) (y := x2) (rg_some g1) (rg_some g2) rfl rfl) hc3 ?_
    obtain ⟨⟨v1, z1⟩, er1, h⟩ := bnd h
    refine bnd_i (i_Y_distance er1 rfl rfl) ?_
    obtain ⟨_, g4, h⟩ := bnd h
    by_cases hc5 : v1 = (-1 : Int)
    · have h := ite_t h hc5
      refine ite_gt (eq_i (x := v1) (y := (-1 : Int)) (rg_some g4) (by decide) rfl l32_m1) hc5 ?_
      exact ret_i l32_m1 h
    · have h := ite_f h hc5
      refine ite_gf (eq_i (x := v1) (y := (-1 : Int)) (rg_some g4) (by decide) rfl l32_m1) hc5 ?_
      refine i_Y_way_19 (fun Xx3 x3 z7 h hx3 => ?_) (fun z8 h  => ?_) FU h rfl rfl l32_0
      · subst hx3
        exact ret_i rfl h
      · exact ret_i l32_m1 h
set_option maxRecDepth 20000 in
theorem i_Y_sizeOf {Xx1 : Int32} {x1 : Int} {z : MemI} {r0 : Int} {a0 : MemI} (h : di_Y_sizeOf x1 z = some (r0, a0)) (hx1 : Xx1 = Int32.ofInt x1) : dn_Y_sizeOf Xx1 (EE z) = some (Int32.ofInt r0, EE a0) := by
  subst hx1
  unfold di_Y_sizeOf at h
  unfold dn_Y_sizeOf
  obtain ⟨j1, ej1, h⟩ := bnd h
  refine bnd_i (aix_i (by decide) ej1 rfl) ?_
  obtain ⟨_, g1, h⟩ := bnd h
  by_cases hc2 : (z.1 27 0 j1) = (0 : Int)
  · have h := ite_t h hc2
    refine ite_gt (eq_i (x := (z.1 27 0 j1)) (y := (0 : Int)) (rg_some g1) (by decide) rfl l32_0) hc2 ?_
    obtain ⟨j2, ej2, h⟩ := bnd h
    refine bnd_i (aix_i (by decide) ej2 rfl) ?_
    obtain ⟨j3, ej3, h⟩ := bnd h
    refine bnd_i (aix_i (by decide) ej3 rfl) ?_
    exact ret_i rfl h
  · have h := ite_f h hc2
    refine ite_gf (eq_i (x := (z.1 27 0 j1)) (y := (0 : Int)) (rg_some g1) (by decide) rfl l32_0) hc2 ?_
    exact ret_i l32_1 h
set_option maxRecDepth 20000 in
theorem i_Y_endOf {Xx1 : Int32} {x1 : Int} {z : MemI} {r0 : Int} {a0 : MemI} (h : di_Y_endOf x1 z = some (r0, a0)) (hx1 : Xx1 = Int32.ofInt x1) : dn_Y_endOf Xx1 (EE z) = some (Int32.ofInt r0, EE a0) := by
  subst hx1
  unfold di_Y_endOf at h
  unfold dn_Y_endOf
  obtain ⟨j1, ej1, h⟩ := bnd h
  refine bnd_i (aix_i (by decide) ej1 rfl) ?_
  obtain ⟨_, g1, h⟩ := bnd h
  by_cases hc2 : (z.1 27 0 j1) = (0 : Int)
  · have h := ite_t h hc2
    refine ite_gt (eq_i (x := (z.1 27 0 j1)) (y := (0 : Int)) (rg_some g1) (by decide) rfl l32_0) hc2 ?_
    obtain ⟨j2, ej2, h⟩ := bnd h
    refine bnd_i (aix_i (by decide) ej2 rfl) ?_
    obtain ⟨j3, ej3, h⟩ := bnd h
    refine bnd_i (aix_i (by decide) ej3 rfl) ?_
    exact ret_i rfl h
  · have h := ite_f h hc2
    refine ite_gf (eq_i (x := (z.1 27 0 j1)) (y := (0 : Int)) (rg_some g1) (by decide) rfl l32_0) hc2 ?_
    obtain ⟨j4, ej4, h⟩ := bnd h
    refine bnd_i (aix_i (by decide) ej4 rfl) ?_
    obtain ⟨j5, ej5, h⟩ := bnd h
    refine bnd_i (aix_i (by decide) ej5 rfl) ?_
    exact ret_i rfl h
set_option maxRecDepth 20000 in
theorem i_Y_queued_5 {Kk64 : Int32 → Mem → Option (Int32 × Mem)} {k64 : Int → MemI → Option (Int × MemI)} {r0 : Int} {a0 : MemI}
    (hk64 : ∀ (Xy0 : Int32) (y0 : Int) (y1 : MemI), k64 y0 y1 = some (r0, a0) → Xy0 = Int32.ofInt y0 → Kk64 Xy0 (EE y1) = some (Int32.ofInt r0, EE a0)) :
    ∀ (n : Nat) {Xx1 : Int32} {Xx2 : Int32} {Xx3 : Int32} {Xx4 : Int32} {x1 : Int} {x2 : Int} {x3 : Int} {x4 : Int} {z : MemI}, di_Y_queued_5 k64 n x1 x2 x3 x4 z = some (r0, a0) → Xx1 = Int32.ofInt x1 → Xx2 = Int32.ofInt x2 → Xx3 = Int32.ofInt x3 → Xx4 = Int32.ofInt x4 → dn_Y_queued_5 Kk64 n Xx1 Xx2 Xx3 Xx4 (EE z) = some (Int32.ofInt r0, EE a0) := by
  intro n
  induction n with
  | zero =>
    intro Xx1 Xx2 Xx3 Xx4 x1 x2 x3 x4 z h hx1 hx2 hx3 hx4
    cases h
  | succ n ih =>
    intro Xx1 Xx2 Xx3 Xx4 x1 x2 x3 x4 z h hx1 hx2 hx3 hx4
    subst hx1 hx2 hx3 hx4
    rw [di_Y_queued_5] at h
    rw [dn_Y_queued_5]
    obtain ⟨_, g1, h⟩ := bnd h
    by_cases hc2 : (64 : Int) ≤ x4
    · have h := ite_t h hc2
      refine ite_gt (le_i (x := (64 : Int)) (y := x4) (by decide) (rg_some g1) l32_64 rfl) hc2 ?_
      exact hk64 _ _ _ h rfl
    · have h := ite_f h hc2
      refine ite_gf (le_i (x := (64 : Int)) (y := x4) (by decide) (rg_some g1) l32_64 rfl) hc2 ?_
      obtain ⟨j1, ej1, h⟩ := bnd h
      refine bnd_i (aix_i (by decide) ej1 rfl) ?_
      obtain ⟨_, g3, h⟩ := bnd h
      by_cases hc4 : (z.1 24 0 j1) = (1 : Int)
      · have h := ite_t h hc4
        refine ite_gt (eq_i (x := (z.1 24 0 j1)) (y := (1 : Int)) (rg_some g3) (by decide) rfl l32_1) hc4 ?_
        obtain ⟨j2, ej2, h⟩ := bnd h
        refine bnd_i (aix_i (by decide) ej2 rfl) ?_
        obtain ⟨_, g5, h⟩ := bnd h
        obtain ⟨_, g6, h⟩ := bnd h
        by_cases hc7 : (z.1 28 0 j2) = x1
        · have h := ite_t h hc7
          refine ite_gt (eq_i (x := (z.1 28 0 j2)) (y := x1) (rg_some g5) (rg_some g6) rfl rfl) hc7 ?_
          obtain ⟨_, g8, h⟩ := bnd h
          by_cases hc9 : x2 = (-1 : Int)
          · have h := ite_t h hc9
            refine ite_gt (eq_i (x := x2) (y := (-1 : Int)) (rg_some g8) (by decide) rfl l32_m1) hc9 ?_
            exact ih h rfl rfl (hAdd rfl l32_1) (hAdd rfl l32_1)
          · have h := ite_f h hc9
            refine ite_gf (eq_i (x := x2) (y := (-1 : Int)) (rg_some g8) (by decide) rfl l32_m1) hc9 ?_
            obtain ⟨j3, ej3, h⟩ := bnd h
            refine bnd_i (aix_i (by decide) ej3 rfl) ?_
            obtain ⟨_, g10, h⟩ := bnd h
            by_cases hc11 : (z.1 25 0 j3) = x2
            · have h := ite_t h hc11
              refine ite_gt (eq_i (x := (z.1 25 0 j3)) (y := x2) (rg_some g10) (rg_some g8) rfl rfl) hc11 ?_
              exact ih h rfl rfl (hAdd rfl l32_1) (hAdd rfl l32_1)
            · have h := ite_f h hc11
              refine ite_gf (eq_i (x := (z.1 25 0 j3)) (y := x2) (rg_some g10) (rg_some g8) rfl rfl) hc11 ?_
              exact ih h rfl rfl (hAdd rfl l32_0) (hAdd rfl l32_1)
        · have h := ite_f h hc7
          refine ite_gf (eq_i (x := (z.1 28 0 j2)) (y := x1) (rg_some g5) (rg_some g6) rfl rfl) hc7 ?_
          exact ih h rfl rfl (hAdd rfl l32_0) (hAdd rfl l32_1)
      · have h := ite_f h hc4
        refine ite_gf (eq_i (x := (z.1 24 0 j1)) (y := (1 : Int)) (rg_some g3) (by decide) rfl l32_1) hc4 ?_
        exact ih h rfl rfl (hAdd rfl l32_0) (hAdd rfl l32_1)
set_option maxRecDepth 20000 in
theorem i_Y_queued {Xx1 : Int32} {Xx2 : Int32} {x1 : Int} {x2 : Int} {z : MemI} {r0 : Int} {a0 : MemI} (h : di_Y_queued x1 x2 z = some (r0, a0)) (hx1 : Xx1 = Int32.ofInt x1) (hx2 : Xx2 = Int32.ofInt x2) : dn_Y_queued Xx1 Xx2 (EE z) = some (Int32.ofInt r0, EE a0) := by
  subst hx1 hx2
  unfold di_Y_queued at h
  unfold dn_Y_queued
  refine i_Y_queued_5 (fun Xx3 x3 z4 h hx3 => ?_) FU h rfl rfl l32_0 l32_0
  · subst hx3
    exact ret_i rfl h
set_option maxRecDepth 20000 in
theorem i_Y_on_4 {Kk42 : Int32 → Mem → Option (Int32 × Mem)} {k42 : Int → MemI → Option (Int × MemI)} {r0 : Int} {a0 : MemI}
    (hk42 : ∀ (Xy0 : Int32) (y0 : Int) (y1 : MemI), k42 y0 y1 = some (r0, a0) → Xy0 = Int32.ofInt y0 → Kk42 Xy0 (EE y1) = some (Int32.ofInt r0, EE a0)) :
    ∀ (n : Nat) {Xx1 : Int32} {Xx2 : Int32} {Xx3 : Int32} {x1 : Int} {x2 : Int} {x3 : Int} {z : MemI}, di_Y_on_4 k42 n x1 x2 x3 z = some (r0, a0) → Xx1 = Int32.ofInt x1 → Xx2 = Int32.ofInt x2 → Xx3 = Int32.ofInt x3 → dn_Y_on_4 Kk42 n Xx1 Xx2 Xx3 (EE z) = some (Int32.ofInt r0, EE a0) := by
  intro n
  induction n with
  | zero =>
    intro Xx1 Xx2 Xx3 x1 x2 x3 z h hx1 hx2 hx3
    cases h
  | succ n ih =>
    intro Xx1 Xx2 Xx3 x1 x2 x3 z h hx1 hx2 hx3
    subst hx1 hx2 hx3
    rw [di_Y_on_4] at h
    rw [dn_Y_on_4]
    obtain ⟨_, g1, h⟩ := bnd h
    by_cases hc2 : (64 : Int) ≤ x3
    · have h := ite_t h hc2
      refine ite_gt (le_i (x := (64 : Int)) (y := x3) (by decide) (rg_some g1) l32_64 rfl) hc2 ?_
      exact hk42 _ _ _ h rfl
    · have h := ite_f h hc2
      refine ite_gf (le_i (x := (64 : Int)) (y := x3) (by decide) (rg_some g1) l32_64 rfl) hc2 ?_
      obtain ⟨j1, ej1, h⟩ := bnd h
      refine bnd_i (aix_i (by decide) ej1 rfl) ?_
      obtain ⟨_, g3, h⟩ := bnd h
      by_cases hc4 : (z.1 24 0 j1) = (2 : Int)
      · have h := ite_t h hc4
        refine ite_gt (eq_i (x := (z.1 24 0 j1)) (y := (2 : Int)) (rg_some g3) (by decide) rfl l32_2) hc4 ?_
        obtain ⟨j2, ej2, h⟩ := bnd h
        refine bnd_i (aix_i (by decide) ej2 rfl) ?_
        obtain ⟨_, g5, h⟩ := bnd h
        obtain ⟨_, g6, h⟩ := bnd h
        by_cases hc7 : (z.1 28 0 j2) = x1
        · have h := ite_t h hc7
          refine ite_gt (eq_i (x := (z.1 28 0 j2)) (y := x1) (rg_some g5) (rg_some g6) rfl rfl) hc7 ?_
          exact ih h rfl rfl (hAdd rfl l32_1)
        · have h := ite_f h hc7
          refine ite_gf (eq_i (x := (z.1 28 0 j2)) (y := x1) (rg_some g5) (rg_some g6) rfl rfl) hc7 ?_
          exact ih h rfl rfl (hAdd rfl l32_1)
      · have h := ite_f h hc4
        refine ite_gf (eq_i (x := (z.1 24 0 j1)) (y := (2 : Int)) (rg_some g3) (by decide) rfl l32_2) hc4 ?_
        exact ih h rfl rfl (hAdd rfl l32_1)
set_option maxRecDepth 20000 in
theorem i_Y_on {Xx1 : Int32} {x1 : Int} {z : MemI} {r0 : Int} {a0 : MemI} (h : di_Y_on x1 z = some (r0, a0)) (hx1 : Xx1 = Int32.ofInt x1) : dn_Y_on Xx1 (EE z) = some (Int32.ofInt r0, EE a0) := by
  subst hx1
  unfold di_Y_on at h
  unfold dn_Y_on
  refine i_Y_on_4 (fun Xx2 x2 z3 h hx2 => ?_) FU h rfl l32_m1 l32_0
  · subst hx2
    exact ret_i rfl h
set_option maxRecDepth 20000 in
theorem i_Y_lose {Xx1 : Int32} {x1 : Int} {z : MemI} {a0 : MemI} (h : di_Y_lose x1 z = some a0) (hx1 : Xx1 = Int32.ofInt x1) : dn_Y_lose Xx1 (EE z) = some (EE a0) := by
  subst hx1
  unfold di_Y_lose at h
  unfold dn_Y_lose
  obtain ⟨j1, ej1, h⟩ := bnd h
  refine bnd_i (aix_i (by decide) ej1 rfl) ?_
  obtain ⟨z2, ez2, h⟩ := stN_o h
  refine stM_i (pI_i ez2 l32_0) ?_
  obtain ⟨j3, ej3, h⟩ := bnd h
  refine bnd_i (aix_i (by decide) ej3 rfl) ?_
  obtain ⟨j4, ej4, h⟩ := bnd h
  refine bnd_i (aix_i (by decide) ej4 (hAdd (hMul l32_4 rfl) l32_2)) ?_
  obtain ⟨j5, ej5, h⟩ := bnd h
  refine bnd_i (aix_i (by decide) ej5 (hAdd (hMul l32_4 rfl) l32_2)) ?_
  obtain ⟨z6, ez6, h⟩ := stN_o h
  refine stM_i (pI_i ez6 (hAdd rfl l32_1)) ?_
  exact retv_i h
set_option maxRecDepth 20000 in
theorem i_Y_leader_4 {Kk59 : Int32 → Mem → Option (Int32 × Mem)} {k59 : Int → MemI → Option (Int × MemI)} {r0 : Int} {a0 : MemI}
    (hk59 : ∀ (Xy0 : Int32) (y0 : Int) (y1 : MemI), k59 y0 y1 = some (r0, a0) → Xy0 = Int32.ofInt y0 → Kk59 Xy0 (EE y1) = some (Int32.ofInt r0, EE a0)) :
    ∀ (n : Nat) {Xx1 : Int32} {Xx2 : Int32} {Xx3 : Int32} {x1 : Int} {x2 : Int} {x3 : Int} {z : MemI}, di_Y_leader_4 k59 n x1 x2 x3 z = some (r0, a0) → Xx1 = Int32.ofInt x1 → Xx2 = Int32.ofInt x2 → Xx3 = Int32.ofInt x3 → dn_Y_leader_4 Kk59 n Xx1 Xx2 Xx3 (EE z) = some (Int32.ofInt r0, EE a0) := by
  intro n
  induction n with
  | zero =>
    intro Xx1 Xx2 Xx3 x1 x2 x3 z h hx1 hx2 hx3
    cases h
  | succ n ih =>
    intro Xx1 Xx2 Xx3 x1 x2 x3 z h hx1 hx2 hx3
    subst hx1 hx2 hx3
    rw [di_Y_leader_4] at h
    rw [dn_Y_leader_4]
    obtain ⟨_, g1, h⟩ := bnd h
    obtain ⟨_, g2, h⟩ := bnd h
    by_cases hc3 : (z.1 0 0 9) ≤ x3
    · have h := ite_t h hc3
      refine ite_gt (le_i (x := (z.1 0 0 9)) (y := x3) (rg_some g1) (rg_some g2) rfl rfl) hc3 ?_
      exact hk59 _ _ _ h rfl
    · have h := ite_f h hc3
      refine ite_gf (le_i (x := (z.1 0 0 9)) (y := x3) (rg_some g1) (rg_some g2) rfl rfl) hc3 ?_
      obtain ⟨⟨v1, z1⟩, er1, h⟩ := bnd h
      refine bnd_i (i_Y_queued er1 rfl rfl) ?_
      obtain ⟨_, g4, h⟩ := bnd h
      by_cases hc5 : v1 ≤ (0 : Int)
      · have h := ite_t h hc5
        refine ite_gt (le_i (x := v1) (y := (0 : Int)) (rg_some g4) (by decide) rfl l32_0) hc5 ?_
        exact ih h rfl rfl (hAdd rfl l32_1)
      · have h := ite_f h hc5
        refine ite_gf (le_i (x := v1) (y := (0 : Int)) (rg_some g4) (by decide) rfl l32_0) hc5 ?_
        obtain ⟨_, g6, h⟩ := bnd h
        by_cases hc7 : x2 = (-1 : Int)
        · have h := ite_t h hc7
          refine ite_gt (eq_i (x := x2) (y := (-1 : Int)) (rg_some g6) (by decide) rfl l32_m1) hc7 ?_
          exact ih h rfl rfl (hAdd rfl l32_1)
        · have h := ite_f h hc7
          refine ite_gf (eq_i (x := x2) (y := (-1 : Int)) (rg_some g6) (by decide) rfl l32_m1) hc7 ?_
          obtain ⟨j2, ej2, h⟩ := bnd h
          refine bnd_i (aix_i (by decide) ej2 (hAdd (hMul l32_6 rfl) rfl)) ?_
          obtain ⟨j3, ej3, h⟩ := bnd h
          refine bnd_i (aix_i (by decide) ej3 (hAdd (hMul l32_6 rfl) rfl)) ?_
          obtain ⟨_, g8, h⟩ := bnd h
          obtain ⟨_, g9, h⟩ := bnd h
          by_cases hc10 : (z1.1 31 0 j3) ≤ (z1.1 31 0 j2)
          · have h := ite_t h hc10
            refine ite_gt (le_i (x := (z1.1 31 0 j3)) (y := (z1.1 31 0 j2)) (rg_some g8) (rg_some g9) rfl rfl) hc10 ?_
            exact ih h rfl rfl (hAdd rfl l32_1)
          · have h := ite_f h hc10
            refine ite_gf (le_i (x := (z1.1 31 0 j3)) (y := (z1.1 31 0 j2)) (rg_some g8) (rg_some g9) rfl rfl) hc10 ?_
            exact ih h rfl rfl (hAdd rfl l32_1)
set_option maxRecDepth 20000 in
theorem i_Y_leader {Xx1 : Int32} {x1 : Int} {z : MemI} {r0 : Int} {a0 : MemI} (h : di_Y_leader x1 z = some (r0, a0)) (hx1 : Xx1 = Int32.ofInt x1) : dn_Y_leader Xx1 (EE z) = some (Int32.ofInt r0, EE a0) := by
  subst hx1
  unfold di_Y_leader at h
  unfold dn_Y_leader
  refine i_Y_leader_4 (fun Xx2 x2 z4 h hx2 => ?_) FU h rfl l32_m1 l32_0
  · subst hx2
    exact ret_i rfl h
set_option maxRecDepth 20000 in
theorem i_Y_head_5 {Kk75 : Int32 → Mem → Option (Int32 × Mem)} {k75 : Int → MemI → Option (Int × MemI)} {r0 : Int} {a0 : MemI}
    (hk75 : ∀ (Xy0 : Int32) (y0 : Int) (y1 : MemI), k75 y0 y1 = some (r0, a0) → Xy0 = Int32.ofInt y0 → Kk75 Xy0 (EE y1) = some (Int32.ofInt r0, EE a0)) :
    ∀ (n : Nat) {Xx1 : Int32} {Xx2 : Int32} {Xx3 : Int32} {Xx4 : Int32} {x1 : Int} {x2 : Int} {x3 : Int} {x4 : Int} {z : MemI}, di_Y_head_5 k75 n x1 x2 x3 x4 z = some (r0, a0) → Xx1 = Int32.ofInt x1 → Xx2 = Int32.ofInt x2 → Xx3 = Int32.ofInt x3 → Xx4 = Int32.ofInt x4 → dn_Y_head_5 Kk75 n Xx1 Xx2 Xx3 Xx4 (EE z) = some (Int32.ofInt r0, EE a0) := by
  intro n
  induction n with
  | zero =>
    intro Xx1 Xx2 Xx3 Xx4 x1 x2 x3 x4 z h hx1 hx2 hx3 hx4
    cases h
  | succ n ih =>
    intro Xx1 Xx2 Xx3 Xx4 x1 x2 x3 x4 z h hx1 hx2 hx3 hx4
    subst hx1 hx2 hx3 hx4
    rw [di_Y_head_5] at h
    rw [dn_Y_head_5]
    obtain ⟨_, g1, h⟩ := bnd h
    by_cases hc2 : (64 : Int) ≤ x4
    · have h := ite_t h hc2
      refine ite_gt (le_i (x := (64 : Int)) (y := x4) (by decide) (rg_some g1) l32_64 rfl) hc2 ?_
      exact hk75 _ _ _ h rfl
    · have h := ite_f h hc2
      refine ite_gf (le_i (x := (64 : Int)) (y := x4) (by decide) (rg_some g1) l32_64 rfl) hc2 ?_
      obtain ⟨j1, ej1, h⟩ := bnd h
      refine bnd_i (aix_i (by decide) ej1 rfl) ?_
      obtain ⟨_, g3, h⟩ := bnd h
      by_cases hc4 : (z.1 24 0 j1) = (1 : Int)
      · have h := ite_t h hc4
        refine ite_gt (eq_i (x := (z.1 24 0 j1)) (y := (1 : Int)) (rg_some g3) (by decide) rfl l32_1) hc4 ?_
        obtain ⟨j2, ej2, h⟩ := bnd h
        refine bnd_i (aix_i (by decide) ej2 rfl) ?_
        obtain ⟨_, g5, h⟩ := bnd h
        obtain ⟨_, g6, h⟩ := bnd h
        by_cases hc7 : (z.1 28 0 j2) = x1
        · have h := ite_t h hc7
          refine ite_gt (eq_i (x := (z.1 28 0 j2)) (y := x1) (rg_some g5) (rg_some g6) rfl rfl) hc7 ?_
          obtain ⟨j3, ej3, h⟩ := bnd h
          refine bnd_i (aix_i (by decide) ej3 rfl) ?_
          obtain ⟨_, g8, h⟩ := bnd h
          obtain ⟨_, g9, h⟩ := bnd h
          by_cases hc10 : (z.1 25 0 j3) = x2
          · have h := ite_t h hc10
            refine ite_gt (eq_i (x := (z.1 25 0 j3)) (y := x2) (rg_some g8) (rg_some g9) rfl rfl) hc10 ?_
            obtain ⟨_, g11, h⟩ := bnd h
            by_cases hc12 : x3 = (-1 : Int)
            · have h := ite_t h hc12
              refine ite_gt (eq_i (x := x3) (y := (-1 : Int)) (rg_some g11) (by decide) rfl l32_m1) hc12 ?_
              exact ih h rfl rfl rfl (hAdd rfl l32_1)
            · have h := ite_f h hc12
              refine ite_gf (eq_i (x := x3) (y := (-1 : Int)) (rg_some g11) (by decide) rfl l32_m1) hc12 ?_
              obtain ⟨j4, ej4, h⟩ := bnd h
              refine bnd_i (aix_i (by decide) ej4 rfl) ?_
              obtain ⟨j5, ej5, h⟩ := bnd h
              refine bnd_i (aix_i (by decide) ej5 rfl) ?_
              obtain ⟨_, g13, h⟩ := bnd h
              obtain ⟨_, g14, h⟩ := bnd h
              by_cases hc15 : (z.1 30 0 j5) ≤ (z.1 30 0 j4)
              · have h := ite_t h hc15
                refine ite_gt (le_i (x := (z.1 30 0 j5)) (y := (z.1 30 0 j4)) (rg_some g13) (rg_some g14) rfl rfl) hc15 ?_
                exact ih h rfl rfl rfl (hAdd rfl l32_1)
              · have h := ite_f h hc15
                refine ite_gf (le_i (x := (z.1 30 0 j5)) (y := (z.1 30 0 j4)) (rg_some g13) (rg_some g14) rfl rfl) hc15 ?_
                exact ih h rfl rfl rfl (hAdd rfl l32_1)
          · have h := ite_f h hc10
            refine ite_gf (eq_i (x := (z.1 25 0 j3)) (y := x2) (rg_some g8) (rg_some g9) rfl rfl) hc10 ?_
            exact ih h rfl rfl rfl (hAdd rfl l32_1)
        · have h := ite_f h hc7
          refine ite_gf (eq_i (x := (z.1 28 0 j2)) (y := x1) (rg_some g5) (rg_some g6) rfl rfl) hc7 ?_
          exact ih h rfl rfl rfl (hAdd rfl l32_1)
      · have h := ite_f h hc4
        refine ite_gf (eq_i (x := (z.1 24 0 j1)) (y := (1 : Int)) (rg_some g3) (by decide) rfl l32_1) hc4 ?_
        exact ih h rfl rfl rfl (hAdd rfl l32_1)
set_option maxRecDepth 20000 in
theorem i_Y_head {Xx1 : Int32} {Xx2 : Int32} {x1 : Int} {x2 : Int} {z : MemI} {r0 : Int} {a0 : MemI} (h : di_Y_head x1 x2 z = some (r0, a0)) (hx1 : Xx1 = Int32.ofInt x1) (hx2 : Xx2 = Int32.ofInt x2) : dn_Y_head Xx1 Xx2 (EE z) = some (Int32.ofInt r0, EE a0) := by
  subst hx1 hx2
  unfold di_Y_head at h
  unfold dn_Y_head
  refine i_Y_head_5 (fun Xx3 x3 z6 h hx3 => ?_) FU h rfl rfl l32_m1 l32_0
  · subst hx3
    exact ret_i rfl h
set_option maxRecDepth 20000 in
theorem i_Y_choose_2 {Kk84 : Int32 → Int32 → Int32 → Mem → Option Mem} {k84 : Int → Int → Int → MemI → Option MemI} {Kk186 : Mem → Option Mem} {k186 : MemI → Option MemI} {a0 : MemI}
    (hk84 : ∀ (Xy0 : Int32) (Xy1 : Int32) (Xy2 : Int32) (y0 : Int) (y1 : Int) (y2 : Int) (y3 : MemI), k84 y0 y1 y2 y3 = some a0 → Xy0 = Int32.ofInt y0 → Xy1 = Int32.ofInt y1 → Xy2 = Int32.ofInt y2 → Kk84 Xy0 Xy1 Xy2 (EE y3) = some (EE a0))
    (hk186 : ∀ (y0 : MemI), k186 y0 = some a0 → Kk186 (EE y0) = some (EE a0)) :
    ∀ (n : Nat) {Xx1 : Int32} {Xx2 : Int32} {x1 : Int} {x2 : Int} {z : MemI}, di_Y_choose_2 k84 k186 n x1 x2 z = some a0 → Xx1 = Int32.ofInt x1 → Xx2 = Int32.ofInt x2 → dn_Y_choose_2 Kk84 Kk186 n Xx1 Xx2 (EE z) = some (EE a0) := by
  intro n
  induction n with
  | zero =>
    intro Xx1 Xx2 x1 x2 z h hx1 hx2
    cases h
  | succ n ih =>
    intro Xx1 Xx2 x1 x2 z h hx1 hx2
    subst hx1 hx2
    rw [di_Y_choose_2] at h
    rw [dn_Y_choose_2]
    obtain ⟨_, g1, h⟩ := bnd h
    by_cases hc2 : (100 : Int) ≤ x2
    · have h := ite_t h hc2
      refine ite_gt (le_i (x := (100 : Int)) (y := x2) (by decide) (rg_some g1) l32_100 rfl) hc2 ?_
      exact hk186 _ h 
    · have h := ite_f h hc2
      refine ite_gf (le_i (x := (100 : Int)) (y := x2) (by decide) (rg_some g1) l32_100 rfl) hc2 ?_
      obtain ⟨⟨v1, z1⟩, er1, h⟩ := bnd h
      refine bnd_i (i_Y_leader er1 rfl) ?_
      obtain ⟨v2, ev2, h⟩ := stW_o h
      refine stV_i (hEq ev2 (hAdd (hMul l32_6 rfl) rfl)) ?_
      obtain ⟨j3, ej3, h⟩ := bnd h
      refine bnd_i (aix_i (by decide) ej3 rfl) ?_
      obtain ⟨j4, ej4, h⟩ := bnd h
      refine bnd_i (aix_i (by decide) ej4 rfl) ?_
      obtain ⟨_, g3, h⟩ := bnd h
      by_cases hc4 : (z1.1 33 0 j4) = (0 : Int)
      · have h := ite_t h hc4
        refine ite_gt (eq_i (x := (z1.1 33 0 j4)) (y := (0 : Int)) (rg_some g3) (by decide) rfl l32_0) hc4 ?_
        obtain ⟨j5, ej5, h⟩ := bnd h
        refine bnd_i (aix_i (by decide) ej5 rfl) ?_
        obtain ⟨j6, ej6, h⟩ := bnd h
        refine bnd_i (aix_i (by decide) ej6 rfl) ?_
        obtain ⟨z7, ez7, h⟩ := stN_o h
        refine stM_i (pI_i ez7 (hAdd rfl rfl)) ?_
        obtain ⟨_, g5, h⟩ := bnd h
        refine bnd_i (bz_i g5 l32_1) ?_
        obtain ⟨j9, ej9, h⟩ := bnd h
        refine bnd_i (aix_i (by decide) ej9 rfl) ?_
        obtain ⟨z10, ez10, h⟩ := stN_o h
        refine stM_i (pI_i ez10 l32_1) ?_
        obtain ⟨⟨v11, z11⟩, er11, h⟩ := bnd h
        refine bnd_i (i_Y_head er11 rfl rfl) ?_
        obtain ⟨⟨v12, z12⟩, er12, h⟩ := bnd h
        refine bnd_i (i_Y_sizeOf er12 rfl) ?_
        obtain ⟨j13, ej13, h⟩ := bnd h
        refine bnd_i (aix_i (by decide) ej13 rfl) ?_
        obtain ⟨_, g6, h⟩ := bnd h
        obtain ⟨_, g7, h⟩ := bnd h
        by_cases hc8 : (z12.1 32 0 j13) < v12
        · have h := ite_t h hc8
          refine ite_gt (lt_i (x := (z12.1 32 0 j13)) (y := v12) (rg_some g6) (rg_some g7) rfl rfl) hc8 ?_
          obtain ⟨z14, ez14, h⟩ := stN_o h
          refine stM_i (pI_i ez14 (hAdd rfl l32_1)) ?_
          obtain ⟨j15, ej15, h⟩ := bnd h
          refine bnd_i (aix_i (by decide) ej15 rfl) ?_
          obtain ⟨z16, ez16, h⟩ := stN_o h
          refine stM_i (pI_i ez16 (hAdd rfl l32_1)) ?_
          obtain ⟨_, g9, h⟩ := bnd h
          refine bnd_i (bz_i g9 l32_0) ?_
          obtain ⟨j18, ej18, h⟩ := bnd h
          refine bnd_i (aix_i (by decide) ej18 rfl) ?_
          obtain ⟨z19, ez19, h⟩ := stN_o h
          refine stM_i (pI_i ez19 l32_0) ?_
          exact ih h rfl (hAdd rfl l32_1)
        · have h := ite_f h hc8
          refine ite_gf (lt_i (x := (z12.1 32 0 j13)) (y := v12) (rg_some g6) (rg_some g7) rfl rfl) hc8 ?_
          exact hk84 _ _ _ _ _ _ _ h rfl rfl rfl
      · have h := ite_f h hc4
        refine ite_gf (eq_i (x := (z1.1 33 0 j4)) (y := (0 : Int)) (rg_some g3) (by decide) rfl l32_0) hc4 ?_
        obtain ⟨j20, ej20, h⟩ := bnd h
        refine bnd_i (aix_i (by decide) ej20 rfl) ?_
        obtain ⟨z21, ez21, h⟩ := stN_o h
        refine stM_i (pI_i ez21 (hAdd rfl l32_0)) ?_
        obtain ⟨_, g10, h⟩ := bnd h
        refine bnd_i (bz_i g10 l32_1) ?_
        obtain ⟨j23, ej23, h⟩ := bnd h
        refine bnd_i (aix_i (by decide) ej23 rfl) ?_
        obtain ⟨z24, ez24, h⟩ := stN_o h
        refine stM_i (pI_i ez24 l32_1) ?_
        obtain ⟨⟨v25, z25⟩, er25, h⟩ := bnd h
        refine bnd_i (i_Y_head er25 rfl rfl) ?_
        obtain ⟨⟨v26, z26⟩, er26, h⟩ := bnd h
        refine bnd_i (i_Y_sizeOf er26 rfl) ?_
        obtain ⟨j27, ej27, h⟩ := bnd h
        refine bnd_i (aix_i (by decide) ej27 rfl) ?_
        obtain ⟨_, g11, h⟩ := bnd h
        obtain ⟨_, g12, h⟩ := bnd h
        by_cases hc13 : (z26.1 32 0 j27) < v26
        · have h := ite_t h hc13
          refine ite_gt (lt_i (x := (z26.1 32 0 j27)) (y := v26) (rg_some g11) (rg_some g12) rfl rfl) hc13 ?_
          obtain ⟨z28, ez28, h⟩ := stN_o h
          refine stM_i (pI_i ez28 (hAdd rfl l32_1)) ?_
          obtain ⟨j29, ej29, h⟩ := bnd h
          refine bnd_i (aix_i (by decide) ej29 rfl) ?_
          obtain ⟨z30, ez30, h⟩ := stN_o h
          refine stM_i (pI_i ez30 (hAdd rfl l32_1)) ?_
          obtain ⟨_, g14, h⟩ := bnd h
          refine bnd_i (bz_i g14 l32_0) ?_
          obtain ⟨j32, ej32, h⟩ := bnd h
          refine bnd_i (aix_i (by decide) ej32 rfl) ?_
          obtain ⟨z33, ez33, h⟩ := stN_o h
          refine stM_i (pI_i ez33 l32_0) ?_
          exact ih h rfl (hAdd rfl l32_1)
        · have h := ite_f h hc13
          refine ite_gf (lt_i (x := (z26.1 32 0 j27)) (y := v26) (rg_some g11) (rg_some g12) rfl rfl) hc13 ?_
          exact hk84 _ _ _ _ _ _ _ h rfl rfl rfl
set_option maxRecDepth 20000 in
theorem i_Y_choose {Xx1 : Int32} {x1 : Int} {z : MemI} {a0 : MemI} (h : di_Y_choose x1 z = some a0) (hx1 : Xx1 = Int32.ofInt x1) : dn_Y_choose Xx1 (EE z) = some (EE a0) := by
  subst hx1
  unfold di_Y_choose at h
  unfold dn_Y_choose
  refine i_Y_choose_2 (fun Xx1 Xx4 Xx5 x1 x4 x5 z34 h hx1 hx4 hx5 => ?_) (fun z48 h  => ?_) FU h rfl l32_0
  · subst hx1 hx4 hx5
    obtain ⟨j35, ej35, h⟩ := bnd h
    refine bnd_i (aix_i (by decide) ej35 rfl) ?_
    obtain ⟨⟨v36, z36⟩, er36, h⟩ := bnd h
    refine bnd_i (i_Y_sizeOf er36 rfl) ?_
    obtain ⟨j37, ej37, h⟩ := bnd h
    refine bnd_i (aix_i (by decide) ej37 rfl) ?_
    obtain ⟨z38, ez38, h⟩ := stN_o h
    refine stM_i (pI_i ez38 (hSub rfl rfl)) ?_
    obtain ⟨j39, ej39, h⟩ := bnd h
    refine bnd_i (aix_i (by decide) ej39 rfl) ?_
    obtain ⟨z40, ez40, h⟩ := stN_o h
    refine stM_i (pI_i ez40 l32_2) ?_
    obtain ⟨⟨v41, z41⟩, er41, h⟩ := bnd h
    refine bnd_i (i_Y_sizeOf er41 rfl) ?_
    obtain ⟨_, g1, h⟩ := bnd h
    obtain ⟨j42, ej42, h⟩ := bnd h
    refine bnd_i (aix_i (by decide) ej42 (hDiv (by decide) g1 rfl l32_2)) ?_
    obtain ⟨j43, ej43, h⟩ := bnd h
    refine bnd_i (aix_i (by decide) ej43 rfl) ?_
    obtain ⟨z44, ez44, h⟩ := stN_o h
    refine stM_i (pI_i ez44 (hAdd rfl (hMul rfl rfl))) ?_
    obtain ⟨z45, ez45, h⟩ := stN_o h
    refine stM_i (pI_i ez45 (hAdd rfl l32_1)) ?_
    obtain ⟨j46, ej46, h⟩ := bnd h
    refine bnd_i (aix_i (by decide) ej46 rfl) ?_
    obtain ⟨z47, ez47, h⟩ := stN_o h
    refine stM_i (pI_i ez47 (hAdd rfl l32_1)) ?_
    exact retv_i h
  · exact retv_i h
set_option maxRecDepth 20000 in
theorem i_Y_put {Xx1 : Int32} {Xx2 : Int32} {x1 : Int} {x2 : Int} {z : MemI} {a0 : MemI} (h : di_Y_put x1 x2 z = some a0) (hx1 : Xx1 = Int32.ofInt x1) (hx2 : Xx2 = Int32.ofInt x2) : dn_Y_put Xx1 Xx2 (EE z) = some (EE a0) := by
  subst hx1 hx2
  unfold di_Y_put at h
  unfold dn_Y_put
  obtain ⟨⟨v1, z1⟩, er1, h⟩ := bnd h
  refine bnd_i (i_Y_endOf er1 rfl) ?_
  obtain ⟨⟨v2, z2⟩, er2, h⟩ := bnd h
  refine bnd_i (i_Y_way er2 rfl rfl) ?_
  obtain ⟨_, g1, h⟩ := bnd h
  by_cases hc2 : v2 = (-1 : Int)
  · have h := ite_t h hc2
    refine ite_gt (eq_i (x := v2) (y := (-1 : Int)) (rg_some g1) (by decide) rfl l32_m1) hc2 ?_
    obtain ⟨z3, ez3, h⟩ := bnd h
    refine bnd_i (i_Y_lose ez3 rfl) ?_
    exact retv_i h
  · have h := ite_f h hc2
    refine ite_gf (eq_i (x := v2) (y := (-1 : Int)) (rg_some g1) (by decide) rfl l32_m1) hc2 ?_
    obtain ⟨⟨v4, z4⟩, er4, h⟩ := bnd h
    refine bnd_i (i_Y_queued er4 rfl l32_m1) ?_
    obtain ⟨j5, ej5, h⟩ := bnd h
    refine bnd_i (aix_i (by decide) ej5 rfl) ?_
    obtain ⟨_, g3, h⟩ := bnd h
    obtain ⟨_, g4, h⟩ := bnd h
    by_cases hc5 : v4 < (z4.1 7 0 j5)
    · have h := ite_t h hc5
      refine ite_gt (lt_i (x := v4) (y := (z4.1 7 0 j5)) (rg_some g3) (rg_some g4) rfl rfl) hc5 ?_
      obtain ⟨j6, ej6, h⟩ := bnd h
      refine bnd_i (aix_i (by decide) ej6 rfl) ?_
      obtain ⟨v7, ev7, h⟩ := stW_o h
      refine stV_i (hEq ev7 (hAdd (hMul l32_6 rfl) rfl)) ?_
      obtain ⟨j8, ej8, h⟩ := bnd h
      refine bnd_i (aix_i (by decide) ej8 rfl) ?_
      obtain ⟨⟨v9, z9⟩, er9, h⟩ := bnd h
      refine bnd_i (i_Y_queued er9 rfl rfl) ?_
      obtain ⟨_, g6, h⟩ := bnd h
      by_cases hc7 : v9 = (0 : Int)
      · have h := ite_t h hc7
        refine ite_gt (eq_i (x := v9) (y := (0 : Int)) (rg_some g6) (by decide) rfl l32_0) hc7 ?_
        obtain ⟨z19, ez19, h⟩ := stN_o h
        refine stM_i (pI_i ez19 (hAdd rfl l32_1)) ?_
        obtain ⟨j20, ej20, h⟩ := bnd h
        refine bnd_i (aix_i (by decide) ej20 rfl) ?_
        obtain ⟨z21, ez21, h⟩ := stN_o h
        refine stM_i (pI_i ez21 (hAdd rfl l32_1)) ?_
        obtain ⟨j22, ej22, h⟩ := bnd h
        refine bnd_i (aix_i (by decide) ej22 rfl) ?_
        obtain ⟨z23, ez23, h⟩ := stN_o h
        refine stM_i (pI_i ez23 l32_0) ?_
        obtain ⟨_, g8, h⟩ := bnd h
        refine bnd_i (bz_i g8 l32_0) ?_
        obtain ⟨j25, ej25, h⟩ := bnd h
        refine bnd_i (aix_i (by decide) ej25 rfl) ?_
        obtain ⟨z26, ez26, h⟩ := stN_o h
        refine stM_i (pI_i ez26 l32_0) ?_
        obtain ⟨j27, ej27, h⟩ := bnd h
        refine bnd_i (aix_i (by decide) ej27 rfl) ?_
        obtain ⟨z28, ez28, h⟩ := stN_o h
        refine stM_i (pI_i ez28 l32_1) ?_
        obtain ⟨j29, ej29, h⟩ := bnd h
        refine bnd_i (aix_i (by decide) ej29 rfl) ?_
        obtain ⟨z30, ez30, h⟩ := stN_o h
        refine stM_i (pI_i ez30 rfl) ?_
        obtain ⟨z31, ez31, h⟩ := stN_o h
        refine stM_i (pI_i ez31 (hAdd rfl l32_1)) ?_
        obtain ⟨j32, ej32, h⟩ := bnd h
        refine bnd_i (aix_i (by decide) ej32 rfl) ?_
        obtain ⟨z33, ez33, h⟩ := stN_o h
        refine stM_i (pI_i ez33 (hAdd rfl l32_1)) ?_
        obtain ⟨⟨v34, z34⟩, er34, h⟩ := bnd h
        refine bnd_i (i_Y_on er34 rfl) ?_
        obtain ⟨_, g9, h⟩ := bnd h
        by_cases hc10 : v34 = (-1 : Int)
        · have h := ite_t h hc10
          refine ite_gt (eq_i (x := v34) (y := (-1 : Int)) (rg_some g9) (by decide) rfl l32_m1) hc10 ?_
          obtain ⟨z35, ez35, h⟩ := bnd h
          refine bnd_i (i_Y_choose ez35 rfl) ?_
          exact retv_i h
        · have h := ite_f h hc10
          refine ite_gf (eq_i (x := v34) (y := (-1 : Int)) (rg_some g9) (by decide) rfl l32_m1) hc10 ?_
          exact retv_i h
      · have h := ite_f h hc7
        refine ite_gf (eq_i (x := v9) (y := (0 : Int)) (rg_some g6) (by decide) rfl l32_0) hc7 ?_
        obtain ⟨j10, ej10, h⟩ := bnd h
        refine bnd_i (aix_i (by decide) ej10 rfl) ?_
        obtain ⟨z11, ez11, h⟩ := stN_o h
        refine stM_i (pI_i ez11 l32_1) ?_
        obtain ⟨j12, ej12, h⟩ := bnd h
        refine bnd_i (aix_i (by decide) ej12 rfl) ?_
        obtain ⟨z13, ez13, h⟩ := stN_o h
        refine stM_i (pI_i ez13 rfl) ?_
        obtain ⟨z14, ez14, h⟩ := stN_o h
        refine stM_i (pI_i ez14 (hAdd rfl l32_1)) ?_
        obtain ⟨j15, ej15, h⟩ := bnd h
        refine bnd_i (aix_i (by decide) ej15 rfl) ?_
        obtain ⟨z16, ez16, h⟩ := stN_o h
        refine stM_i (pI_i ez16 (hAdd rfl l32_1)) ?_
        obtain ⟨⟨v17, z17⟩, er17, h⟩ := bnd h
        refine bnd_i (i_Y_on er17 rfl) ?_
        obtain ⟨_, g11, h⟩ := bnd h
        by_cases hc12 : v17 = (-1 : Int)
        · have h := ite_t h hc12
          refine ite_gt (eq_i (x := v17) (y := (-1 : Int)) (rg_some g11) (by decide) rfl l32_m1) hc12 ?_
          obtain ⟨z18, ez18, h⟩ := bnd h
          refine bnd_i (i_Y_choose ez18 rfl) ?_
          exact retv_i h
        · have h := ite_f h hc12
          refine ite_gf (eq_i (x := v17) (y := (-1 : Int)) (rg_some g11) (by decide) rfl l32_m1) hc12 ?_
          exact retv_i h
    · have h := ite_f h hc5
      refine ite_gf (lt_i (x := v4) (y := (z4.1 7 0 j5)) (rg_some g3) (rg_some g4) rfl rfl) hc5 ?_
      obtain ⟨z36, ez36, h⟩ := bnd h
      refine bnd_i (i_Y_lose ez36 rfl) ?_
      exact retv_i h
set_option maxRecDepth 20000 in
theorem i_Y_make_17 {Kk40 : Int32 → Int32 → Int32 → Int32 → Int32 → Mem → Option Mem} {k40 : Int → Int → Int → Int → Int → MemI → Option MemI} {a0 : MemI}
    (hk40 : ∀ (Xy0 : Int32) (Xy1 : Int32) (Xy2 : Int32) (Xy3 : Int32) (Xy4 : Int32) (y0 : Int) (y1 : Int) (y2 : Int) (y3 : Int) (y4 : Int) (y5 : MemI), k40 y0 y1 y2 y3 y4 y5 = some a0 → Xy0 = Int32.ofInt y0 → Xy1 = Int32.ofInt y1 → Xy2 = Int32.ofInt y2 → Xy3 = Int32.ofInt y3 → Xy4 = Int32.ofInt y4 → Kk40 Xy0 Xy1 Xy2 Xy3 Xy4 (EE y5) = some (EE a0)) :
    ∀ (n : Nat) {Xx1 : Int32} {Xx2 : Int32} {Xx3 : Int32} {Xx4 : Int32} {Xx5 : Int32} {x1 : Int} {x2 : Int} {x3 : Int} {x4 : Int} {x5 : Int} {z : MemI}, di_Y_make_17 k40 n x1 x2 x3 x4 x5 z = some a0 → Xx1 = Int32.ofInt x1 → Xx2 = Int32.ofInt x2 → Xx3 = Int32.ofInt x3 → Xx4 = Int32.ofInt x4 → Xx5 = Int32.ofInt x5 → dn_Y_make_17 Kk40 n Xx1 Xx2 Xx3 Xx4 Xx5 (EE z) = some (EE a0) := by
  intro n
  induction n with
  | zero =>
    intro Xx1 Xx2 Xx3 Xx4 Xx5 x1 x2 x3 x4 x5 z h hx1 hx2 hx3 hx4 hx5
    cases h
  | succ n ih =>
    intro Xx1 Xx2 Xx3 Xx4 Xx5 x1 x2 x3 x4 x5 z h hx1 hx2 hx3 hx4 hx5
    subst hx1 hx2 hx3 hx4 hx5
    rw [di_Y_make_17] at h
    rw [dn_Y_make_17]
    obtain ⟨_, g1, h⟩ := bnd h
    by_cases hc2 : (64 : Int) ≤ x5
    · have h := ite_t h hc2
      refine ite_gt (le_i (x := (64 : Int)) (y := x5) (by decide) (rg_some g1) l32_64 rfl) hc2 ?_
      exact hk40 _ _ _ _ _ _ _ _ _ _ _ h rfl rfl rfl rfl rfl
    · have h := ite_f h hc2
      refine ite_gf (le_i (x := (64 : Int)) (y := x5) (by decide) (rg_some g1) l32_64 rfl) hc2 ?_
      obtain ⟨j4, ej4, h⟩ := bnd h
      refine bnd_i (aix_i (by decide) ej4 rfl) ?_
      obtain ⟨_, g3, h⟩ := bnd h
      by_cases hc4 : (z.1 24 0 j4) = (0 : Int)
      · have h := ite_t h hc4
        refine ite_gt (eq_i (x := (z.1 24 0 j4)) (y := (0 : Int)) (rg_some g3) (by decide) rfl l32_0) hc4 ?_
        exact hk40 _ _ _ _ _ _ _ _ _ _ _ h rfl rfl rfl rfl rfl
      · have h := ite_f h hc4
        refine ite_gf (eq_i (x := (z.1 24 0 j4)) (y := (0 : Int)) (rg_some g3) (by decide) rfl l32_0) hc4 ?_
        exact ih h rfl rfl rfl rfl (hAdd rfl l32_1)
set_option maxRecDepth 20000 in
theorem i_Y_make {Xx1 : Int32} {Xx2 : Int32} {Xx3 : Int32} {Xx4 : Int32} {x1 : Int} {x2 : Int} {x3 : Int} {x4 : Int} {z : MemI} {a0 : MemI} (h : di_Y_make x1 x2 x3 x4 z = some a0) (hx1 : Xx1 = Int32.ofInt x1) (hx2 : Xx2 = Int32.ofInt x2) (hx3 : Xx3 = Int32.ofInt x3) (hx4 : Xx4 = Int32.ofInt x4) : dn_Y_make Xx1 Xx2 Xx3 Xx4 (EE z) = some (EE a0) := by
  subst hx1 hx2 hx3 hx4
  unfold di_Y_make at h
  unfold dn_Y_make
  obtain ⟨j1, ej1, h⟩ := bnd h
  refine bnd_i (aix_i (by decide) ej1 (hAdd (hMul l32_4 rfl) l32_0)) ?_
  obtain ⟨j2, ej2, h⟩ := bnd h
  refine bnd_i (aix_i (by decide) ej2 (hAdd (hMul l32_4 rfl) l32_0)) ?_
  obtain ⟨z3, ez3, h⟩ := stN_o h
  refine stM_i (pI_i ez3 (hAdd rfl l32_1)) ?_
  refine i_Y_make_17 (fun Xx1 Xx2 Xx3 Xx4 Xx5 x1 x2 x3 x4 x5 z5 h hx1 hx2 hx3 hx4 hx5 => ?_) FU h rfl rfl rfl rfl l32_0
  · subst hx1 hx2 hx3 hx4 hx5
    obtain ⟨_, g1, h⟩ := bnd h
    by_cases hc2 : x5 = (64 : Int)
    · have h := ite_t h hc2
      refine ite_gt (eq_i (x := x5) (y := (64 : Int)) (rg_some g1) (by decide) rfl l32_64) hc2 ?_
      obtain ⟨j14, ej14, h⟩ := bnd h
      refine bnd_i (aix_i (by decide) ej14 (hAdd (hMul l32_4 rfl) l32_2)) ?_
      obtain ⟨j15, ej15, h⟩ := bnd h
      refine bnd_i (aix_i (by decide) ej15 (hAdd (hMul l32_4 rfl) l32_2)) ?_
      obtain ⟨z16, ez16, h⟩ := stN_o h
      refine stM_i (pI_i ez16 (hAdd rfl l32_1)) ?_
      exact retv_i h
    · have h := ite_f h hc2
      refine ite_gf (eq_i (x := x5) (y := (64 : Int)) (rg_some g1) (by decide) rfl l32_64) hc2 ?_
      obtain ⟨j6, ej6, h⟩ := bnd h
      refine bnd_i (aix_i (by decide) ej6 rfl) ?_
      obtain ⟨z7, ez7, h⟩ := stN_o h
      refine stM_i (pI_i ez7 rfl) ?_
      obtain ⟨j8, ej8, h⟩ := bnd h
      refine bnd_i (aix_i (by decide) ej8 rfl) ?_
      obtain ⟨z9, ez9, h⟩ := stN_o h
      refine stM_i (pI_i ez9 rfl) ?_
      obtain ⟨_, g3, h⟩ := bnd h
      refine bnd_i (bz_i g3 rfl) ?_
      obtain ⟨j11, ej11, h⟩ := bnd h
      refine bnd_i (aix_i (by decide) ej11 rfl) ?_
      obtain ⟨z12, ez12, h⟩ := stN_o h
      refine stM_i (pI_i ez12 rfl) ?_
      obtain ⟨z13, ez13, h⟩ := bnd h
      refine bnd_i (i_Y_put ez13 rfl rfl) ?_
      exact retv_i h
