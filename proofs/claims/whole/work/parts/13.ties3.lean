set_option maxRecDepth 20000 in
theorem i_Y_setTimeout {Xx1 : Int32} {x1 : Int} {z : MemI} {a0 : MemI} (h : di_Y_setTimeout x1 z = some a0) (hx1 : Xx1 = Int32.ofInt x1) : dn_Y_setTimeout Xx1 (EE z) = some (EE a0) := by
  subst hx1
  unfold di_Y_setTimeout at h
  unfold dn_Y_setTimeout
  obtain ⟨j1, ej1, h⟩ := bnd h
  refine bnd_i (aix_i (by decide) ej1 rfl) ?_
  obtain ⟨j2, ej2, h⟩ := bnd h
  refine bnd_i (aix_i (by decide) ej2 rfl) ?_
  obtain ⟨z3, ez3, h⟩ := stN_o h
  refine stM_i (pI_i ez3 (hAdd rfl rfl)) ?_
  obtain ⟨z4, ez4, h⟩ := stN_o h
  refine stM_i (pI_i ez4 (hAdd rfl l32_1)) ?_
  obtain ⟨j5, ej5, h⟩ := bnd h
  refine bnd_i (aix_i (by decide) ej5 rfl) ?_
  obtain ⟨z6, ez6, h⟩ := stN_o h
  refine stM_i (pI_i ez6 (hAdd rfl l32_1)) ?_
  exact retv_i h
set_option maxRecDepth 20000 in
theorem i_Y_fill_0 {Kk84 : Mem → Option Mem} {k84 : MemI → Option MemI} {a0 : MemI}
    (hk84 : ∀ (y0 : MemI), k84 y0 = some a0 → Kk84 (EE y0) = some (EE a0)) :
    ∀ (n : Nat) {Xx1 : Int32} {x1 : Int} {z : MemI}, di_Y_fill_0 k84 n x1 z = some a0 → Xx1 = Int32.ofInt x1 → dn_Y_fill_0 Kk84 n Xx1 (EE z) = some (EE a0) := by
  intro n
  induction n with
  | zero =>
    intro Xx1 x1 z h hx1
    cases h
  | succ n ih =>
    intro Xx1 x1 z h hx1
    subst hx1
    rw [di_Y_fill_0] at h
    rw [dn_Y_fill_0]
    obtain ⟨j1, ej1, h⟩ := bnd h
    refine bnd_i (aix_i (by decide) ej1 rfl) ?_
    obtain ⟨j2, ej2, h⟩ := bnd h
    refine bnd_i (aix_i (by decide) ej2 rfl) ?_
    obtain ⟨j3, ej3, h⟩ := bnd h
    refine bnd_i (aix_i (by decide) ej3 rfl) ?_
    obtain ⟨_, g1, h⟩ := bnd h
    obtain ⟨_, g2, h⟩ := bnd h
    by_cases hc3 : ((z.1 16 0 j2) + (z.1 13 0 j3)) ≤ (z.1 17 0 j1)
    · have h := ite_t h hc3
      refine ite_gt (le_i (x := ((z.1 16 0 j2) + (z.1 13 0 j3))) (y := (z.1 17 0 j1)) (rg_some g1) (rg_some g2) (hAdd rfl rfl) rfl) hc3 ?_
      exact hk84 _ h 
    · have h := ite_f h hc3
      refine ite_gf (le_i (x := ((z.1 16 0 j2) + (z.1 13 0 j3))) (y := (z.1 17 0 j1)) (rg_some g1) (rg_some g2) (hAdd rfl rfl) rfl) hc3 ?_
      obtain ⟨j4, ej4, h⟩ := bnd h
      refine bnd_i (aix_i (by decide) ej4 rfl) ?_
      obtain ⟨j5, ej5, h⟩ := bnd h
      refine bnd_i (aix_i (by decide) ej5 rfl) ?_
      obtain ⟨_, g4, h⟩ := bnd h
      obtain ⟨_, g5, h⟩ := bnd h
      by_cases hc6 : (z.1 11 0 j5) ≤ (z.1 17 0 j4)
      · have h := ite_t h hc6
        refine ite_gt (le_i (x := (z.1 11 0 j5)) (y := (z.1 17 0 j4)) (rg_some g4) (rg_some g5) rfl rfl) hc6 ?_
        exact hk84 _ h 
      · have h := ite_f h hc6
        refine ite_gf (le_i (x := (z.1 11 0 j5)) (y := (z.1 17 0 j4)) (rg_some g4) (rg_some g5) rfl rfl) hc6 ?_
        obtain ⟨j6, ej6, h⟩ := bnd h
        refine bnd_i (aix_i (by decide) ej6 rfl) ?_
        obtain ⟨_, g7, h⟩ := bnd h
        by_cases hc8 : (z.1 21 0 j6) = (-1 : Int)
        · have h := ite_t h hc8
          refine ite_gt (eq_i (x := (z.1 21 0 j6)) (y := (-1 : Int)) (rg_some g7) (by decide) rfl l32_m1) hc8 ?_
          obtain ⟨z12, ez12, h⟩ := bnd h
          refine bnd_i (i_Y_setTimeout ez12 rfl) ?_
          obtain ⟨j13, ej13, h⟩ := bnd h
          refine bnd_i (aix_i (by decide) ej13 rfl) ?_
          obtain ⟨j14, ej14, h⟩ := bnd h
          refine bnd_i (aix_i (by decide) ej14 rfl) ?_
          obtain ⟨z15, ez15, h⟩ := bnd h
          refine bnd_i (i_Y_make ez15 rfl rfl l32_0 rfl) ?_
          obtain ⟨j16, ej16, h⟩ := bnd h
          refine bnd_i (aix_i (by decide) ej16 rfl) ?_
          obtain ⟨z17, ez17, h⟩ := stN_o h
          refine stM_i (pI_i ez17 (hAdd rfl l32_1)) ?_
          exact ih h rfl
        · have h := ite_f h hc8
          refine ite_gf (eq_i (x := (z.1 21 0 j6)) (y := (-1 : Int)) (rg_some g7) (by decide) rfl l32_m1) hc8 ?_
          obtain ⟨j7, ej7, h⟩ := bnd h
          refine bnd_i (aix_i (by decide) ej7 rfl) ?_
          obtain ⟨j8, ej8, h⟩ := bnd h
          refine bnd_i (aix_i (by decide) ej8 rfl) ?_
          obtain ⟨z9, ez9, h⟩ := bnd h
          refine bnd_i (i_Y_make ez9 rfl rfl l32_0 rfl) ?_
          obtain ⟨j10, ej10, h⟩ := bnd h
          refine bnd_i (aix_i (by decide) ej10 rfl) ?_
          obtain ⟨z11, ez11, h⟩ := stN_o h
          refine stM_i (pI_i ez11 (hAdd rfl l32_1)) ?_
          exact ih h rfl
set_option maxRecDepth 20000 in
theorem i_Y_fill {Xx1 : Int32} {x1 : Int} {z : MemI} {a0 : MemI} (h : di_Y_fill x1 z = some a0) (hx1 : Xx1 = Int32.ofInt x1) : dn_Y_fill Xx1 (EE z) = some (EE a0) := by
  subst hx1
  unfold di_Y_fill at h
  unfold dn_Y_fill
  refine i_Y_fill_0 (fun z18 h  => ?_) FU h rfl
  · exact retv_i h
set_option maxRecDepth 20000 in
theorem i_Y_arrive {Xx1 : Int32} {x1 : Int} {z : MemI} {a0 : MemI} (h : di_Y_arrive x1 z = some a0) (hx1 : Xx1 = Int32.ofInt x1) : dn_Y_arrive Xx1 (EE z) = some (EE a0) := by
  subst hx1
  unfold di_Y_arrive at h
  unfold dn_Y_arrive
  obtain ⟨j1, ej1, h⟩ := bnd h
  refine bnd_i (aix_i (by decide) ej1 rfl) ?_
  obtain ⟨⟨v2, z2⟩, er2, h⟩ := bnd h
  refine bnd_i (i_Y_leads er2 rfl) ?_
  obtain ⟨⟨v3, z3⟩, er3, h⟩ := bnd h
  refine bnd_i (i_Y_endOf er3 rfl) ?_
  obtain ⟨_, g1, h⟩ := bnd h
  obtain ⟨_, g2, h⟩ := bnd h
  by_cases hc3 : v2 = v3
  · have h := ite_t h hc3
    refine ite_gt (eq_i (x := v2) (y := v3) (rg_some g1) (rg_some g2) rfl rfl) hc3 ?_
    obtain ⟨j4, ej4, h⟩ := bnd h
    refine bnd_i (aix_i (by decide) ej4 rfl) ?_
    obtain ⟨j5, ej5, h⟩ := bnd h
    refine bnd_i (aix_i (by decide) ej5 rfl) ?_
    obtain ⟨j6, ej6, h⟩ := bnd h
    refine bnd_i (aix_i (by decide) ej6 rfl) ?_
    obtain ⟨z7, ez7, h⟩ := stN_o h
    refine stM_i (pI_i ez7 l32_0) ?_
    obtain ⟨j8, ej8, h⟩ := bnd h
    refine bnd_i (aix_i (by decide) ej8 (hAdd (hMul l32_4 rfl) l32_1)) ?_
    obtain ⟨j9, ej9, h⟩ := bnd h
    refine bnd_i (aix_i (by decide) ej9 (hAdd (hMul l32_4 rfl) l32_1)) ?_
    obtain ⟨z10, ez10, h⟩ := stN_o h
    refine stM_i (pI_i ez10 (hAdd rfl l32_1)) ?_
    obtain ⟨j11, ej11, h⟩ := bnd h
    refine bnd_i (aix_i (by decide) ej11 rfl) ?_
    obtain ⟨_, g4, h⟩ := bnd h
    by_cases hc5 : (z10.1 27 0 j11) = (0 : Int)
    · have h := ite_t h hc5
      refine ite_gt (eq_i (x := (z10.1 27 0 j11)) (y := (0 : Int)) (rg_some g4) (by decide) rfl l32_0) hc5 ?_
      obtain ⟨j35, ej35, h⟩ := bnd h
      refine bnd_i (aix_i (by decide) ej35 rfl) ?_
      obtain ⟨_, g6, h⟩ := bnd h
      obtain ⟨_, g7, h⟩ := bnd h
      by_cases hc8 : (z3.1 26 0 j5) = (z10.1 18 0 j35)
      · have h := ite_t h hc8
        refine ite_gt (eq_i (x := (z3.1 26 0 j5)) (y := (z10.1 18 0 j35)) (rg_some g6) (rg_some g7) rfl rfl) hc8 ?_
        obtain ⟨j41, ej41, h⟩ := bnd h
        refine bnd_i (aix_i (by decide) ej41 rfl) ?_
        obtain ⟨z42, ez42, h⟩ := stN_o h
        refine stM_i (pI_i ez42 (hAdd rfl l32_1)) ?_
        obtain ⟨j43, ej43, h⟩ := bnd h
        refine bnd_i (aix_i (by decide) ej43 rfl) ?_
        obtain ⟨z44, ez44, h⟩ := bnd h
        refine bnd_i (i_Y_make ez44 rfl rfl l32_1 rfl) ?_
        exact retv_i h
      · have h := ite_f h hc8
        refine ite_gf (eq_i (x := (z3.1 26 0 j5)) (y := (z10.1 18 0 j35)) (rg_some g6) (rg_some g7) rfl rfl) hc8 ?_
        obtain ⟨j36, ej36, h⟩ := bnd h
        refine bnd_i (aix_i (by decide) ej36 rfl) ?_
        obtain ⟨j37, ej37, h⟩ := bnd h
        refine bnd_i (aix_i (by decide) ej37 rfl) ?_
        obtain ⟨z38, ez38, h⟩ := stN_o h
        refine stM_i (pI_i ez38 rfl) ?_
        obtain ⟨j39, ej39, h⟩ := bnd h
        refine bnd_i (aix_i (by decide) ej39 rfl) ?_
        obtain ⟨z40, ez40, h⟩ := bnd h
        refine bnd_i (i_Y_make ez40 rfl rfl l32_1 rfl) ?_
        exact retv_i h
    · have h := ite_f h hc5
      refine ite_gf (eq_i (x := (z10.1 27 0 j11)) (y := (0 : Int)) (rg_some g4) (by decide) rfl l32_0) hc5 ?_
      obtain ⟨j12, ej12, h⟩ := bnd h
      refine bnd_i (aix_i (by decide) ej12 rfl) ?_
      obtain ⟨_, g9, h⟩ := bnd h
      obtain ⟨_, g10, h⟩ := bnd h
      by_cases hc11 : (z3.1 26 0 j5) ≤ (z10.1 16 0 j12)
      · have h := ite_t h hc11
        refine ite_gt (le_i (x := (z3.1 26 0 j5)) (y := (z10.1 16 0 j12)) (rg_some g9) (rg_some g10) rfl rfl) hc11 ?_
        exact retv_i h
      · have h := ite_f h hc11
        refine ite_gf (le_i (x := (z3.1 26 0 j5)) (y := (z10.1 16 0 j12)) (rg_some g9) (rg_some g10) rfl rfl) hc11 ?_
        obtain ⟨j13, ej13, h⟩ := bnd h
        refine bnd_i (aix_i (by decide) ej13 rfl) ?_
        obtain ⟨z14, ez14, h⟩ := stN_o h
        refine stM_i (pI_i ez14 rfl) ?_
        obtain ⟨j15, ej15, h⟩ := bnd h
        refine bnd_i (aix_i (by decide) ej15 rfl) ?_
        obtain ⟨_, g12, h⟩ := bnd h
        by_cases hc13 : (z3.1 26 0 j5) ≤ (z14.1 17 0 j15)
        · have h := ite_t h hc13
          refine ite_gt (le_i (x := (z3.1 26 0 j5)) (y := (z14.1 17 0 j15)) (rg_some g9) (rg_some g12) rfl rfl) hc13 ?_
          obtain ⟨j16, ej16, h⟩ := bnd h
          refine bnd_i (aix_i (by decide) ej16 rfl) ?_
          obtain ⟨j17, ej17, h⟩ := bnd h
          refine bnd_i (aix_i (by decide) ej17 rfl) ?_
          obtain ⟨z18, ez18, h⟩ := stN_o h
          refine stM_i (pI_i ez18 rfl) ?_
          obtain ⟨j19, ej19, h⟩ := bnd h
          refine bnd_i (aix_i (by decide) ej19 rfl) ?_
          obtain ⟨z20, ez20, h⟩ := stN_o h
          refine stM_i (pI_i ez20 l32_m1) ?_
          obtain ⟨j21, ej21, h⟩ := bnd h
          refine bnd_i (aix_i (by decide) ej21 rfl) ?_
          obtain ⟨j22, ej22, h⟩ := bnd h
          refine bnd_i (aix_i (by decide) ej22 rfl) ?_
          obtain ⟨_, g14, h⟩ := bnd h
          obtain ⟨_, g15, h⟩ := bnd h
          by_cases hc16 : (z20.1 17 0 j22) ≤ (z20.1 16 0 j21)
          · have h := ite_t h hc16
            refine ite_gt (le_i (x := (z20.1 17 0 j22)) (y := (z20.1 16 0 j21)) (rg_some g14) (rg_some g15) rfl rfl) hc16 ?_
            obtain ⟨z23, ez23, h⟩ := bnd h
            refine bnd_i (i_Y_fill ez23 rfl) ?_
            exact retv_i h
          · have h := ite_f h hc16
            refine ite_gf (le_i (x := (z20.1 17 0 j22)) (y := (z20.1 16 0 j21)) (rg_some g14) (rg_some g15) rfl rfl) hc16 ?_
            obtain ⟨z24, ez24, h⟩ := bnd h
            refine bnd_i (i_Y_setTimeout ez24 rfl) ?_
            obtain ⟨z25, ez25, h⟩ := bnd h
            refine bnd_i (i_Y_fill ez25 rfl) ?_
            exact retv_i h
        · have h := ite_f h hc13
          refine ite_gf (le_i (x := (z3.1 26 0 j5)) (y := (z14.1 17 0 j15)) (rg_some g9) (rg_some g12) rfl rfl) hc13 ?_
          obtain ⟨j26, ej26, h⟩ := bnd h
          refine bnd_i (aix_i (by decide) ej26 rfl) ?_
          obtain ⟨z27, ez27, h⟩ := stN_o h
          refine stM_i (pI_i ez27 rfl) ?_
          obtain ⟨j28, ej28, h⟩ := bnd h
          refine bnd_i (aix_i (by decide) ej28 rfl) ?_
          obtain ⟨z29, ez29, h⟩ := stN_o h
          refine stM_i (pI_i ez29 l32_m1) ?_
          obtain ⟨j30, ej30, h⟩ := bnd h
          refine bnd_i (aix_i (by decide) ej30 rfl) ?_
          obtain ⟨j31, ej31, h⟩ := bnd h
          refine bnd_i (aix_i (by decide) ej31 rfl) ?_
          obtain ⟨_, g17, h⟩ := bnd h
          obtain ⟨_, g18, h⟩ := bnd h
          by_cases hc19 : (z29.1 17 0 j31) ≤ (z29.1 16 0 j30)
          · have h := ite_t h hc19
            refine ite_gt (le_i (x := (z29.1 17 0 j31)) (y := (z29.1 16 0 j30)) (rg_some g17) (rg_some g18) rfl rfl) hc19 ?_
            obtain ⟨z32, ez32, h⟩ := bnd h
            refine bnd_i (i_Y_fill ez32 rfl) ?_
            exact retv_i h
          · have h := ite_f h hc19
            refine ite_gf (le_i (x := (z29.1 17 0 j31)) (y := (z29.1 16 0 j30)) (rg_some g17) (rg_some g18) rfl rfl) hc19 ?_
            obtain ⟨z33, ez33, h⟩ := bnd h
            refine bnd_i (i_Y_setTimeout ez33 rfl) ?_
            obtain ⟨z34, ez34, h⟩ := bnd h
            refine bnd_i (i_Y_fill ez34 rfl) ?_
            exact retv_i h
  · have h := ite_f h hc3
    refine ite_gf (eq_i (x := v2) (y := v3) (rg_some g1) (rg_some g2) rfl rfl) hc3 ?_
    obtain ⟨z45, ez45, h⟩ := bnd h
    refine bnd_i (i_Y_put ez45 rfl rfl) ?_
    exact retv_i h
set_option maxRecDepth 20000 in
theorem i_Y_begin_15 {Kk58 : Mem → Option Mem} {k58 : MemI → Option MemI} {a0 : MemI}
    (hk58 : ∀ (y0 : MemI), k58 y0 = some a0 → Kk58 (EE y0) = some (EE a0)) :
    ∀ (n : Nat) {Xx1 : Int32} {x1 : Int} {z : MemI}, di_Y_begin_15 k58 n x1 z = some a0 → Xx1 = Int32.ofInt x1 → dn_Y_begin_15 Kk58 n Xx1 (EE z) = some (EE a0) := by
  intro n
  induction n with
  | zero =>
    intro Xx1 x1 z h hx1
    cases h
  | succ n ih =>
    intro Xx1 x1 z h hx1
    subst hx1
    rw [di_Y_begin_15] at h
    rw [dn_Y_begin_15]
    obtain ⟨_, g1, h⟩ := bnd h
    obtain ⟨_, g2, h⟩ := bnd h
    by_cases hc3 : (z.1 0 0 9) ≤ x1
    · have h := ite_t h hc3
      refine ite_gt (le_i (x := (z.1 0 0 9)) (y := x1) (rg_some g1) (rg_some g2) rfl rfl) hc3 ?_
      exact hk58 _ h 
    · have h := ite_f h hc3
      refine ite_gf (le_i (x := (z.1 0 0 9)) (y := x1) (rg_some g1) (rg_some g2) rfl rfl) hc3 ?_
      obtain ⟨j3, ej3, h⟩ := bnd h
      refine bnd_i (aix_i (by decide) ej3 rfl) ?_
      obtain ⟨j4, ej4, h⟩ := bnd h
      refine bnd_i (aix_i (by decide) ej4 rfl) ?_
      obtain ⟨z5, ez5, h⟩ := stN_o h
      refine stM_i (pI_i ez5 rfl) ?_
      obtain ⟨z6, ez6, h⟩ := stN_o h
      refine stM_i (pI_i ez6 (hAdd rfl l32_1)) ?_
      obtain ⟨j7, ej7, h⟩ := bnd h
      refine bnd_i (aix_i (by decide) ej7 rfl) ?_
      obtain ⟨z8, ez8, h⟩ := stN_o h
      refine stM_i (pI_i ez8 (hAdd rfl l32_1)) ?_
      exact ih h (hAdd rfl l32_1)
set_option maxRecDepth 20000 in
theorem i_Y_begin {z : MemI} {a0 : MemI} (h : di_Y_begin z = some a0)  : dn_Y_begin (EE z) = some (EE a0) := by
  unfold di_Y_begin at h
  unfold dn_Y_begin
  obtain ⟨_, g1, h⟩ := bnd h
  by_cases hc2 : (z.1 0 0 35) = (0 : Int)
  · have h := ite_t h hc2
    refine ite_gt (eq_i (x := (z.1 0 0 35)) (y := (0 : Int)) (rg_some g1) (by decide) rfl l32_0) hc2 ?_
    obtain ⟨_, g3, h⟩ := bnd h
    refine bnd_i (bz_i g3 l32_1) ?_
    obtain ⟨z2, ez2, h⟩ := stN_o h
    refine stM_i (pI_i ez2 l32_1) ?_
    refine i_Y_begin_15 (fun z9 h  => ?_) FU h l32_0
    · exact retv_i h
  · have h := ite_f h hc2
    refine ite_gf (eq_i (x := (z.1 0 0 35)) (y := (0 : Int)) (rg_some g1) (by decide) rfl l32_0) hc2 ?_
    exact retv_i h
set_option maxRecDepth 20000 in
theorem i_Y_note {Xx1 : Int32} {Xx2 : Int32} {Xx3 : Int32} {x1 : Int} {x2 : Int} {x3 : Int} {z : MemI} {a0 : MemI} (h : di_Y_note x1 x2 x3 z = some a0) (hx1 : Xx1 = Int32.ofInt x1) (hx2 : Xx2 = Int32.ofInt x2) (hx3 : Xx3 = Int32.ofInt x3) : dn_Y_note Xx1 Xx2 Xx3 (EE z) = some (EE a0) := by
  subst hx1 hx2 hx3
  unfold di_Y_note at h
  unfold dn_Y_note
  obtain ⟨_, g1, h⟩ := bnd h
  obtain ⟨j1, ej1, h⟩ := bnd h
  refine bnd_i (aix_i (by decide) ej1 (hMod (by decide) g1 rfl l32_16)) ?_
  obtain ⟨_, g2, h⟩ := bnd h
  obtain ⟨_, g3, h⟩ := bnd h
  obtain ⟨_, g4, h⟩ := bnd h
  obtain ⟨_, g5, h⟩ := bnd h
  obtain ⟨z2, ez2, h⟩ := stN_o h
  refine stM_i (pL_i ez2 (hAddL (hAddL (hAddL (hMulL (hI2L g2 rfl) l64_1048576) (hMulL (hI2L g3 rfl) l64_65536)) (hMulL (hI2L g4 rfl) l64_256)) (hI2L g5 rfl))) ?_
  obtain ⟨z3, ez3, h⟩ := stN_o h
  refine stM_i (pI_i ez3 (hAdd rfl l32_1)) ?_
  exact retv_i h
set_option maxRecDepth 20000 in
theorem i_Y_sooner {Xx0 : Int64} {Xx2 : Int32} {Xx3 : Int32} {x0 : Int} {x2 : Int} {x3 : Int} {r0 : Int} (h : di_Y_sooner x0 x2 x3 = some r0) (hx0 : Xx0 = Int64.ofInt x0) (hx2 : Xx2 = Int32.ofInt x2) (hx3 : Xx3 = Int32.ofInt x3) : dn_Y_sooner Xx0 Xx2 Xx3 = some (Int64.ofInt r0) := by
  subst hx0 hx2 hx3
  unfold di_Y_sooner at h
  unfold dn_Y_sooner
  obtain ⟨_, g1, h⟩ := bnd h
  obtain ⟨_, g2, h⟩ := bnd h
  obtain ⟨v1, ev1, h⟩ := stW_o h
  refine stV_i (hEqL ev1 (hAddL (hMulL (hI2L g1 rfl) l64_4294967296) (hI2L g2 rfl))) ?_
  obtain ⟨_, g3, h⟩ := bnd h
  obtain ⟨_, g4, h⟩ := bnd h
  by_cases hc5 : (cmpZ x0 (0 : Int)) = (0 : Int)
  · have h := ite_t h hc5
    refine ite_gt (eq_i (x := (cmpZ x0 (0 : Int))) (y := (0 : Int)) (rg_some g4) (by decide) (hCmp g3 (rl_ok (by decide)) rfl l64_0) l32_0) hc5 ?_
    exact retpj_i rfl h
  · have h := ite_f h hc5
    refine ite_gf (eq_i (x := (cmpZ x0 (0 : Int))) (y := (0 : Int)) (rg_some g4) (by decide) (hCmp g3 (rl_ok (by decide)) rfl l64_0) l32_0) hc5 ?_
    obtain ⟨_, g6, h⟩ := bnd h
    obtain ⟨_, g7, h⟩ := bnd h
    by_cases hc8 : (0 : Int) ≤ (cmpZ v1 x0)
    · have h := ite_t h hc8
      refine ite_gt (le_i (x := (0 : Int)) (y := (cmpZ v1 x0)) (by decide) (rg_some g7) l32_0 (hCmp g6 g3 rfl rfl)) hc8 ?_
      exact retpj_i rfl h
    · have h := ite_f h hc8
      refine ite_gf (le_i (x := (0 : Int)) (y := (cmpZ v1 x0)) (by decide) (rg_some g7) l32_0 (hCmp g6 g3 rfl rfl)) hc8 ?_
      exact retpj_i rfl h
set_option maxRecDepth 20000 in
theorem i_Y_soonest_4 {Kk43 : Int64 → Mem → Option (Int64 × Mem)} {k43 : Int → MemI → Option (Int × MemI)} {r0 : Int} {a0 : MemI}
    (hk43 : ∀ (Xy0 : Int64) (y0 : Int) (y1 : MemI), k43 y0 y1 = some (r0, a0) → Xy0 = Int64.ofInt y0 → Kk43 Xy0 (EE y1) = some (Int64.ofInt r0, EE a0)) :
    ∀ (n : Nat) {Xx1 : Int64} {Xx3 : Int32} {x1 : Int} {x3 : Int} {z : MemI}, di_Y_soonest_4 k43 n x1 x3 z = some (r0, a0) → Xx1 = Int64.ofInt x1 → Xx3 = Int32.ofInt x3 → dn_Y_soonest_4 Kk43 n Xx1 Xx3 (EE z) = some (Int64.ofInt r0, EE a0) := by
  intro n
  induction n with
  | zero =>
    intro Xx1 Xx3 x1 x3 z h hx1 hx3
    cases h
  | succ n ih =>
    intro Xx1 Xx3 x1 x3 z h hx1 hx3
    subst hx1 hx3
    rw [di_Y_soonest_4] at h
    rw [dn_Y_soonest_4]
    obtain ⟨_, g1, h⟩ := bnd h
    by_cases hc2 : (64 : Int) ≤ x3
    · have h := ite_t h hc2
      refine ite_gt (le_i (x := (64 : Int)) (y := x3) (by decide) (rg_some g1) l32_64 rfl) hc2 ?_
      exact hk43 _ _ _ h rfl
    · have h := ite_f h hc2
      refine ite_gf (le_i (x := (64 : Int)) (y := x3) (by decide) (rg_some g1) l32_64 rfl) hc2 ?_
      obtain ⟨j1, ej1, h⟩ := bnd h
      refine bnd_i (aix_i (by decide) ej1 rfl) ?_
      obtain ⟨_, g3, h⟩ := bnd h
      by_cases hc4 : (z.1 24 0 j1) < (2 : Int)
      · have h := ite_t h hc4
        refine ite_gt (lt_i (x := (z.1 24 0 j1)) (y := (2 : Int)) (rg_some g3) (by decide) rfl l32_2) hc4 ?_
        exact ih h rfl (hAdd rfl l32_1)
      · have h := ite_f h hc4
        refine ite_gf (lt_i (x := (z.1 24 0 j1)) (y := (2 : Int)) (rg_some g3) (by decide) rfl l32_2) hc4 ?_
        obtain ⟨j2, ej2, h⟩ := bnd h
        refine bnd_i (aix_i (by decide) ej2 rfl) ?_
        obtain ⟨j3, ej3, h⟩ := bnd h
        refine bnd_i (aix_i (by decide) ej3 rfl) ?_
        obtain ⟨v4, ev4, h⟩ := bnd h
        refine bnd_i (i_Y_sooner ev4 rfl rfl rfl) ?_
        exact ih h rfl (hAdd rfl l32_1)
set_option maxRecDepth 20000 in
theorem i_Y_soonest_45 {Kk113 : Int64 → Mem → Option (Int64 × Mem)} {k113 : Int → MemI → Option (Int × MemI)} {r0 : Int} {a0 : MemI}
    (hk113 : ∀ (Xy0 : Int64) (y0 : Int) (y1 : MemI), k113 y0 y1 = some (r0, a0) → Xy0 = Int64.ofInt y0 → Kk113 Xy0 (EE y1) = some (Int64.ofInt r0, EE a0)) :
    ∀ (n : Nat) {Xx1 : Int64} {Xx3 : Int32} {x1 : Int} {x3 : Int} {z : MemI}, di_Y_soonest_45 k113 n x1 x3 z = some (r0, a0) → Xx1 = Int64.ofInt x1 → Xx3 = Int32.ofInt x3 → dn_Y_soonest_45 Kk113 n Xx1 Xx3 (EE z) = some (Int64.ofInt r0, EE a0) := by
  intro n
  induction n with
  | zero =>
    intro Xx1 Xx3 x1 x3 z h hx1 hx3
    cases h
  | succ n ih =>
    intro Xx1 Xx3 x1 x3 z h hx1 hx3
    subst hx1 hx3
    rw [di_Y_soonest_45] at h
    rw [dn_Y_soonest_45]
    obtain ⟨_, g1, h⟩ := bnd h
    obtain ⟨_, g2, h⟩ := bnd h
    by_cases hc3 : (z.1 0 0 9) ≤ x3
    · have h := ite_t h hc3
      refine ite_gt (le_i (x := (z.1 0 0 9)) (y := x3) (rg_some g1) (rg_some g2) rfl rfl) hc3 ?_
      exact hk113 _ _ _ h rfl
    · have h := ite_f h hc3
      refine ite_gf (le_i (x := (z.1 0 0 9)) (y := x3) (rg_some g1) (rg_some g2) rfl rfl) hc3 ?_
      obtain ⟨j6, ej6, h⟩ := bnd h
      refine bnd_i (aix_i (by decide) ej6 rfl) ?_
      obtain ⟨_, g4, h⟩ := bnd h
      by_cases hc5 : (z.1 19 0 j6) = (-1 : Int)
      · have h := ite_t h hc5
        refine ite_gt (eq_i (x := (z.1 19 0 j6)) (y := (-1 : Int)) (rg_some g4) (by decide) rfl l32_m1) hc5 ?_
        obtain ⟨j7, ej7, h⟩ := bnd h
        refine bnd_i (aix_i (by decide) ej7 rfl) ?_
        obtain ⟨_, g6, h⟩ := bnd h
        by_cases hc7 : (z.1 21 0 j7) = (-1 : Int)
        · have h := ite_t h hc7
          refine ite_gt (eq_i (x := (z.1 21 0 j7)) (y := (-1 : Int)) (rg_some g6) (by decide) rfl l32_m1) hc7 ?_
          exact ih h rfl (hAdd rfl l32_1)
        · have h := ite_f h hc7
          refine ite_gf (eq_i (x := (z.1 21 0 j7)) (y := (-1 : Int)) (rg_some g6) (by decide) rfl l32_m1) hc7 ?_
          obtain ⟨j8, ej8, h⟩ := bnd h
          refine bnd_i (aix_i (by decide) ej8 rfl) ?_
          obtain ⟨j9, ej9, h⟩ := bnd h
          refine bnd_i (aix_i (by decide) ej9 rfl) ?_
          obtain ⟨v10, ev10, h⟩ := bnd h
          refine bnd_i (i_Y_sooner ev10 rfl rfl rfl) ?_
          exact ih h rfl (hAdd rfl l32_1)
      · have h := ite_f h hc5
        refine ite_gf (eq_i (x := (z.1 19 0 j6)) (y := (-1 : Int)) (rg_some g4) (by decide) rfl l32_m1) hc5 ?_
        obtain ⟨j11, ej11, h⟩ := bnd h
        refine bnd_i (aix_i (by decide) ej11 rfl) ?_
        obtain ⟨j12, ej12, h⟩ := bnd h
        refine bnd_i (aix_i (by decide) ej12 rfl) ?_
        obtain ⟨v13, ev13, h⟩ := bnd h
        refine bnd_i (i_Y_sooner ev13 rfl rfl rfl) ?_
        obtain ⟨j14, ej14, h⟩ := bnd h
        refine bnd_i (aix_i (by decide) ej14 rfl) ?_
        obtain ⟨_, g8, h⟩ := bnd h
        by_cases hc9 : (z.1 21 0 j14) = (-1 : Int)
        · have h := ite_t h hc9
          refine ite_gt (eq_i (x := (z.1 21 0 j14)) (y := (-1 : Int)) (rg_some g8) (by decide) rfl l32_m1) hc9 ?_
          exact ih h rfl (hAdd rfl l32_1)
        · have h := ite_f h hc9
          refine ite_gf (eq_i (x := (z.1 21 0 j14)) (y := (-1 : Int)) (rg_some g8) (by decide) rfl l32_m1) hc9 ?_
          obtain ⟨j15, ej15, h⟩ := bnd h
          refine bnd_i (aix_i (by decide) ej15 rfl) ?_
          obtain ⟨j16, ej16, h⟩ := bnd h
          refine bnd_i (aix_i (by decide) ej16 rfl) ?_
          obtain ⟨v17, ev17, h⟩ := bnd h
          refine bnd_i (i_Y_sooner ev17 rfl rfl rfl) ?_
          exact ih h rfl (hAdd rfl l32_1)
set_option maxRecDepth 20000 in
theorem i_Y_soonest {z : MemI} {r0 : Int} {a0 : MemI} (h : di_Y_soonest z = some (r0, a0))  : dn_Y_soonest (EE z) = some (Int64.ofInt r0, EE a0) := by
  unfold di_Y_soonest at h
  unfold dn_Y_soonest
  refine i_Y_soonest_4 (fun Xx1 x1 z5 h hx1 => ?_) FU h l64_0 l32_0
  · subst hx1
    refine i_Y_soonest_45 (fun Xx1 x1 z18 h hx1 => ?_) FU h rfl l32_0
    · subst hx1
      exact retj_i rfl h
set_option maxRecDepth 20000 in
theorem i_Y_moved {Xx1 : Int32} {x1 : Int} {z : MemI} {a0 : MemI} (h : di_Y_moved x1 z = some a0) (hx1 : Xx1 = Int32.ofInt x1) : dn_Y_moved Xx1 (EE z) = some (EE a0) := by
  subst hx1
  unfold di_Y_moved at h
  unfold dn_Y_moved
  obtain ⟨j1, ej1, h⟩ := bnd h
  refine bnd_i (aix_i (by decide) ej1 rfl) ?_
  obtain ⟨_, g1, h⟩ := bnd h
  by_cases hc2 : (z.1 27 0 j1) = (0 : Int)
  · have h := ite_t h hc2
    refine ite_gt (eq_i (x := (z.1 27 0 j1)) (y := (0 : Int)) (rg_some g1) (by decide) rfl l32_0) hc2 ?_
    obtain ⟨j2, ej2, h⟩ := bnd h
    refine bnd_i (aix_i (by decide) ej2 rfl) ?_
    obtain ⟨j3, ej3, h⟩ := bnd h
    refine bnd_i (aix_i (by decide) ej3 rfl) ?_
    obtain ⟨j4, ej4, h⟩ := bnd h
    refine bnd_i (aix_i (by decide) ej4 rfl) ?_
    obtain ⟨_, g3, h⟩ := bnd h
    by_cases hc4 : (z.1 24 0 j4) = (3 : Int)
    · have h := ite_t h hc4
      refine ite_gt (eq_i (x := (z.1 24 0 j4)) (y := (3 : Int)) (rg_some g3) (by decide) rfl l32_3) hc4 ?_
      obtain ⟨⟨v16, z16⟩, er16, h⟩ := bnd h
      refine bnd_i (i_Y_leads er16 rfl) ?_
      obtain ⟨z17, ez17, h⟩ := bnd h
      refine bnd_i (i_Y_note ez17 l32_3 rfl rfl) ?_
      obtain ⟨z18, ez18, h⟩ := bnd h
      refine bnd_i (i_Y_arrive ez18 rfl) ?_
      exact retv_i h
    · have h := ite_f h hc4
      refine ite_gf (eq_i (x := (z.1 24 0 j4)) (y := (3 : Int)) (rg_some g3) (by decide) rfl l32_3) hc4 ?_
      obtain ⟨z5, ez5, h⟩ := bnd h
      refine bnd_i (i_Y_note ez5 l32_2 rfl rfl) ?_
      obtain ⟨j6, ej6, h⟩ := bnd h
      refine bnd_i (aix_i (by decide) ej6 rfl) ?_
      obtain ⟨z7, ez7, h⟩ := stN_o h
      refine stM_i (pI_i ez7 l32_3) ?_
      obtain ⟨_, g5, h⟩ := bnd h
      obtain ⟨j8, ej8, h⟩ := bnd h
      refine bnd_i (aix_i (by decide) ej8 (hDiv (by decide) g5 rfl l32_2)) ?_
      obtain ⟨j9, ej9, h⟩ := bnd h
      refine bnd_i (aix_i (by decide) ej9 rfl) ?_
      obtain ⟨z10, ez10, h⟩ := stN_o h
      refine stM_i (pI_i ez10 (hAdd rfl rfl)) ?_
      obtain ⟨z11, ez11, h⟩ := stN_o h
      refine stM_i (pI_i ez11 (hAdd rfl l32_1)) ?_
      obtain ⟨j12, ej12, h⟩ := bnd h
      refine bnd_i (aix_i (by decide) ej12 rfl) ?_
      obtain ⟨z13, ez13, h⟩ := stN_o h
      refine stM_i (pI_i ez13 (hAdd rfl l32_1)) ?_
      obtain ⟨⟨v14, z14⟩, er14, h⟩ := bnd h
      refine bnd_i (i_Y_queued er14 rfl l32_m1) ?_
      obtain ⟨_, g6, h⟩ := bnd h
      by_cases hc7 : v14 ≤ (0 : Int)
      · have h := ite_t h hc7
        refine ite_gt (le_i (x := v14) (y := (0 : Int)) (rg_some g6) (by decide) rfl l32_0) hc7 ?_
        exact retv_i h
      · have h := ite_f h hc7
        refine ite_gf (le_i (x := v14) (y := (0 : Int)) (rg_some g6) (by decide) rfl l32_0) hc7 ?_
        obtain ⟨z15, ez15, h⟩ := bnd h
        refine bnd_i (i_Y_choose ez15 rfl) ?_
        exact retv_i h
  · have h := ite_f h hc2
    refine ite_gf (eq_i (x := (z.1 27 0 j1)) (y := (0 : Int)) (rg_some g1) (by decide) rfl l32_0) hc2 ?_
    obtain ⟨j19, ej19, h⟩ := bnd h
    refine bnd_i (aix_i (by decide) ej19 rfl) ?_
    obtain ⟨v20, ev20, h⟩ := stW_o h
    refine stV_i (hEq ev20 (hAdd rfl l32_128)) ?_
    obtain ⟨j21, ej21, h⟩ := bnd h
    refine bnd_i (aix_i (by decide) ej21 rfl) ?_
    obtain ⟨j22, ej22, h⟩ := bnd h
    refine bnd_i (aix_i (by decide) ej22 rfl) ?_
    obtain ⟨_, g8, h⟩ := bnd h
    by_cases hc9 : (z.1 24 0 j22) = (3 : Int)
    · have h := ite_t h hc9
      refine ite_gt (eq_i (x := (z.1 24 0 j22)) (y := (3 : Int)) (rg_some g8) (by decide) rfl l32_3) hc9 ?_
      obtain ⟨⟨v34, z34⟩, er34, h⟩ := bnd h
      refine bnd_i (i_Y_leads er34 rfl) ?_
      obtain ⟨z35, ez35, h⟩ := bnd h
      refine bnd_i (i_Y_note ez35 l32_3 rfl rfl) ?_
      obtain ⟨z36, ez36, h⟩ := bnd h
      refine bnd_i (i_Y_arrive ez36 rfl) ?_
      exact retv_i h
    · have h := ite_f h hc9
      refine ite_gf (eq_i (x := (z.1 24 0 j22)) (y := (3 : Int)) (rg_some g8) (by decide) rfl l32_3) hc9 ?_
      obtain ⟨z23, ez23, h⟩ := bnd h
      refine bnd_i (i_Y_note ez23 l32_2 rfl rfl) ?_
      obtain ⟨j24, ej24, h⟩ := bnd h
      refine bnd_i (aix_i (by decide) ej24 rfl) ?_
      obtain ⟨z25, ez25, h⟩ := stN_o h
      refine stM_i (pI_i ez25 l32_3) ?_
      obtain ⟨_, g10, h⟩ := bnd h
      obtain ⟨j26, ej26, h⟩ := bnd h
      refine bnd_i (aix_i (by decide) ej26 (hDiv (by decide) g10 rfl l32_2)) ?_
      obtain ⟨j27, ej27, h⟩ := bnd h
      refine bnd_i (aix_i (by decide) ej27 rfl) ?_
      obtain ⟨z28, ez28, h⟩ := stN_o h
      refine stM_i (pI_i ez28 (hAdd rfl rfl)) ?_
      obtain ⟨z29, ez29, h⟩ := stN_o h
      refine stM_i (pI_i ez29 (hAdd rfl l32_1)) ?_
      obtain ⟨j30, ej30, h⟩ := bnd h
      refine bnd_i (aix_i (by decide) ej30 rfl) ?_
      obtain ⟨z31, ez31, h⟩ := stN_o h
      refine stM_i (pI_i ez31 (hAdd rfl l32_1)) ?_
      obtain ⟨⟨v32, z32⟩, er32, h⟩ := bnd h
      refine bnd_i (i_Y_queued er32 rfl l32_m1) ?_
      obtain ⟨_, g11, h⟩ := bnd h
      by_cases hc12 : v32 ≤ (0 : Int)
      · have h := ite_t h hc12
        refine ite_gt (le_i (x := v32) (y := (0 : Int)) (rg_some g11) (by decide) rfl l32_0) hc12 ?_
        exact retv_i h
      · have h := ite_f h hc12
        refine ite_gf (le_i (x := v32) (y := (0 : Int)) (rg_some g11) (by decide) rfl l32_0) hc12 ?_
        obtain ⟨z33, ez33, h⟩ := bnd h
        refine bnd_i (i_Y_choose ez33 rfl) ?_
        exact retv_i h
set_option maxRecDepth 20000 in
theorem i_Y_step_37 {Kk68 : Int32 → Mem → Option (Int32 × Mem)} {k68 : Int → MemI → Option (Int × MemI)} {Kk120 : Int32 → Mem → Option (Int32 × Mem)} {k120 : Int → MemI → Option (Int × MemI)} {Kk185 : Int32 → Mem → Option (Int32 × Mem)} {k185 : Int → MemI → Option (Int × MemI)} {r0 : Int} {a0 : MemI}
    (hk68 : ∀ (Xy0 : Int32) (y0 : Int) (y1 : MemI), k68 y0 y1 = some (r0, a0) → Xy0 = Int32.ofInt y0 → Kk68 Xy0 (EE y1) = some (Int32.ofInt r0, EE a0))
    (hk120 : ∀ (Xy0 : Int32) (y0 : Int) (y1 : MemI), k120 y0 y1 = some (r0, a0) → Xy0 = Int32.ofInt y0 → Kk120 Xy0 (EE y1) = some (Int32.ofInt r0, EE a0))
    (hk185 : ∀ (Xy0 : Int32) (y0 : Int) (y1 : MemI), k185 y0 y1 = some (r0, a0) → Xy0 = Int32.ofInt y0 → Kk185 Xy0 (EE y1) = some (Int32.ofInt r0, EE a0)) :
    ∀ (n : Nat) {Xx3 : Int32} {Xx4 : Int32} {x3 : Int} {x4 : Int} {z : MemI}, di_Y_step_37 k68 k120 k185 n x3 x4 z = some (r0, a0) → Xx3 = Int32.ofInt x3 → Xx4 = Int32.ofInt x4 → dn_Y_step_37 Kk68 Kk120 Kk185 n Xx3 Xx4 (EE z) = some (Int32.ofInt r0, EE a0) := by
  intro n
  induction n with
  | zero =>
    intro Xx3 Xx4 x3 x4 z h hx3 hx4
    cases h
  | succ n ih =>
    intro Xx3 Xx4 x3 x4 z h hx3 hx4
    subst hx3 hx4
    rw [di_Y_step_37] at h
    rw [dn_Y_step_37]
    obtain ⟨_, g1, h⟩ := bnd h
    obtain ⟨_, g2, h⟩ := bnd h
    by_cases hc3 : (z.1 0 0 9) ≤ x4
    · have h := ite_t h hc3
      refine ite_gt (le_i (x := (z.1 0 0 9)) (y := x4) (rg_some g1) (rg_some g2) rfl rfl) hc3 ?_
      exact hk185 _ _ _ h rfl
    · have h := ite_f h hc3
      refine ite_gf (le_i (x := (z.1 0 0 9)) (y := x4) (rg_some g1) (rg_some g2) rfl rfl) hc3 ?_
      obtain ⟨j5, ej5, h⟩ := bnd h
      refine bnd_i (aix_i (by decide) ej5 rfl) ?_
      obtain ⟨_, g4, h⟩ := bnd h
      by_cases hc5 : (z.1 19 0 j5) = (-1 : Int)
      · have h := ite_t h hc5
        refine ite_gt (eq_i (x := (z.1 19 0 j5)) (y := (-1 : Int)) (rg_some g4) (by decide) rfl l32_m1) hc5 ?_
        obtain ⟨j6, ej6, h⟩ := bnd h
        refine bnd_i (aix_i (by decide) ej6 rfl) ?_
        obtain ⟨_, g6, h⟩ := bnd h
        by_cases hc7 : (z.1 21 0 j6) = (-1 : Int)
        · have h := ite_t h hc7
          refine ite_gt (eq_i (x := (z.1 21 0 j6)) (y := (-1 : Int)) (rg_some g6) (by decide) rfl l32_m1) hc7 ?_
          exact ih h rfl (hAdd rfl l32_1)
        · have h := ite_f h hc7
          refine ite_gf (eq_i (x := (z.1 21 0 j6)) (y := (-1 : Int)) (rg_some g6) (by decide) rfl l32_m1) hc7 ?_
          obtain ⟨j7, ej7, h⟩ := bnd h
          refine bnd_i (aix_i (by decide) ej7 rfl) ?_
          obtain ⟨_, g8, h⟩ := bnd h
          obtain ⟨_, g9, h⟩ := bnd h
          by_cases hc10 : (z.1 22 0 j7) = x3
          · have h := ite_t h hc10
            refine ite_gt (eq_i (x := (z.1 22 0 j7)) (y := x3) (rg_some g8) (rg_some g9) rfl rfl) hc10 ?_
            exact hk120 _ _ _ h rfl
          · have h := ite_f h hc10
            refine ite_gf (eq_i (x := (z.1 22 0 j7)) (y := x3) (rg_some g8) (rg_some g9) rfl rfl) hc10 ?_
            exact ih h rfl (hAdd rfl l32_1)
      · have h := ite_f h hc5
        refine ite_gf (eq_i (x := (z.1 19 0 j5)) (y := (-1 : Int)) (rg_some g4) (by decide) rfl l32_m1) hc5 ?_
        obtain ⟨j8, ej8, h⟩ := bnd h
        refine bnd_i (aix_i (by decide) ej8 rfl) ?_
        obtain ⟨_, g11, h⟩ := bnd h
        obtain ⟨_, g12, h⟩ := bnd h
        by_cases hc13 : (z.1 20 0 j8) = x3
        · have h := ite_t h hc13
          refine ite_gt (eq_i (x := (z.1 20 0 j8)) (y := x3) (rg_some g11) (rg_some g12) rfl rfl) hc13 ?_
          exact hk68 _ _ _ h rfl
        · have h := ite_f h hc13
          refine ite_gf (eq_i (x := (z.1 20 0 j8)) (y := x3) (rg_some g11) (rg_some g12) rfl rfl) hc13 ?_
          obtain ⟨j9, ej9, h⟩ := bnd h
          refine bnd_i (aix_i (by decide) ej9 rfl) ?_
          obtain ⟨_, g14, h⟩ := bnd h
          by_cases hc15 : (z.1 21 0 j9) = (-1 : Int)
          · have h := ite_t h hc15
            refine ite_gt (eq_i (x := (z.1 21 0 j9)) (y := (-1 : Int)) (rg_some g14) (by decide) rfl l32_m1) hc15 ?_
            exact ih h rfl (hAdd rfl l32_1)
          · have h := ite_f h hc15
            refine ite_gf (eq_i (x := (z.1 21 0 j9)) (y := (-1 : Int)) (rg_some g14) (by decide) rfl l32_m1) hc15 ?_
            obtain ⟨j10, ej10, h⟩ := bnd h
            refine bnd_i (aix_i (by decide) ej10 rfl) ?_
            obtain ⟨_, g16, h⟩ := bnd h
            by_cases hc17 : (z.1 22 0 j10) = x3
            · have h := ite_t h hc17
              refine ite_gt (eq_i (x := (z.1 22 0 j10)) (y := x3) (rg_some g16) (rg_some g12) rfl rfl) hc17 ?_
              exact hk120 _ _ _ h rfl
            · have h := ite_f h hc17
              refine ite_gf (eq_i (x := (z.1 22 0 j10)) (y := x3) (rg_some g16) (rg_some g12) rfl rfl) hc17 ?_
              exact ih h rfl (hAdd rfl l32_1)
set_option maxRecDepth 20000 in
theorem i_Y_step_188 {Kk217 : Int32 → Mem → Option (Int32 × Mem)} {k217 : Int → MemI → Option (Int × MemI)} {Kk231 : Mem → Option (Int32 × Mem)} {k231 : MemI → Option (Int × MemI)} {r0 : Int} {a0 : MemI}
    (hk217 : ∀ (Xy0 : Int32) (y0 : Int) (y1 : MemI), k217 y0 y1 = some (r0, a0) → Xy0 = Int32.ofInt y0 → Kk217 Xy0 (EE y1) = some (Int32.ofInt r0, EE a0))
    (hk231 : ∀ (y0 : MemI), k231 y0 = some (r0, a0) → Kk231 (EE y0) = some (Int32.ofInt r0, EE a0)) :
    ∀ (n : Nat) {Xx3 : Int32} {Xx4 : Int32} {x3 : Int} {x4 : Int} {z : MemI}, di_Y_step_188 k217 k231 n x3 x4 z = some (r0, a0) → Xx3 = Int32.ofInt x3 → Xx4 = Int32.ofInt x4 → dn_Y_step_188 Kk217 Kk231 n Xx3 Xx4 (EE z) = some (Int32.ofInt r0, EE a0) := by
  intro n
  induction n with
  | zero =>
    intro Xx3 Xx4 x3 x4 z h hx3 hx4
    cases h
  | succ n ih =>
    intro Xx3 Xx4 x3 x4 z h hx3 hx4
    subst hx3 hx4
    rw [di_Y_step_188] at h
    rw [dn_Y_step_188]
    obtain ⟨_, g1, h⟩ := bnd h
    by_cases hc2 : (64 : Int) ≤ x4
    · have h := ite_t h hc2
      refine ite_gt (le_i (x := (64 : Int)) (y := x4) (by decide) (rg_some g1) l32_64 rfl) hc2 ?_
      exact hk231 _ h 
    · have h := ite_f h hc2
      refine ite_gf (le_i (x := (64 : Int)) (y := x4) (by decide) (rg_some g1) l32_64 rfl) hc2 ?_
      obtain ⟨j32, ej32, h⟩ := bnd h
      refine bnd_i (aix_i (by decide) ej32 rfl) ?_
      obtain ⟨_, g3, h⟩ := bnd h
      by_cases hc4 : (z.1 24 0 j32) < (2 : Int)
      · have h := ite_t h hc4
        refine ite_gt (lt_i (x := (z.1 24 0 j32)) (y := (2 : Int)) (rg_some g3) (by decide) rfl l32_2) hc4 ?_
        exact ih h rfl (hAdd rfl l32_1)
      · have h := ite_f h hc4
        refine ite_gf (lt_i (x := (z.1 24 0 j32)) (y := (2 : Int)) (rg_some g3) (by decide) rfl l32_2) hc4 ?_
        obtain ⟨j33, ej33, h⟩ := bnd h
        refine bnd_i (aix_i (by decide) ej33 rfl) ?_
        obtain ⟨_, g5, h⟩ := bnd h
        obtain ⟨_, g6, h⟩ := bnd h
        by_cases hc7 : (z.1 30 0 j33) = x3
        · have h := ite_t h hc7
          refine ite_gt (eq_i (x := (z.1 30 0 j33)) (y := x3) (rg_some g5) (rg_some g6) rfl rfl) hc7 ?_
          exact hk217 _ _ _ h rfl
        · have h := ite_f h hc7
          refine ite_gf (eq_i (x := (z.1 30 0 j33)) (y := x3) (rg_some g5) (rg_some g6) rfl rfl) hc7 ?_
          exact ih h rfl (hAdd rfl l32_1)
set_option maxRecDepth 20000 in
theorem i_Y_step {z : MemI} {r0 : Int} {a0 : MemI} (h : di_Y_step z = some (r0, a0))  : dn_Y_step (EE z) = some (Int32.ofInt r0, EE a0) := by
  unfold di_Y_step at h
  unfold dn_Y_step
  obtain ⟨z1, ez1, h⟩ := bnd h
  refine bnd_i (i_Y_begin ez1 ) ?_
  obtain ⟨⟨v2, z2⟩, er2, h⟩ := bnd h
  refine bnd_i (i_Y_soonest er2 ) ?_
  obtain ⟨_, g1, h⟩ := bnd h
  obtain ⟨_, g2, h⟩ := bnd h
  by_cases hc3 : (cmpZ v2 (0 : Int)) = (0 : Int)
  · have h := ite_t h hc3
    refine ite_gt (eq_i (x := (cmpZ v2 (0 : Int))) (y := (0 : Int)) (rg_some g2) (by decide) (hCmp g1 (rl_ok (by decide)) rfl l64_0) l32_0) hc3 ?_
    obtain ⟨_, g4, h⟩ := bnd h
    refine bnd_i (bz_i g4 l32_0) ?_
    exact ret_i l32_0 h
  · have h := ite_f h hc3
    refine ite_gf (eq_i (x := (cmpZ v2 (0 : Int))) (y := (0 : Int)) (rg_some g2) (by decide) (hCmp g1 (rl_ok (by decide)) rfl l64_0) l32_0) hc3 ?_
    obtain ⟨_, g5, h⟩ := bnd h
    obtain ⟨v3, ev3, h⟩ := stW_o h
    refine stV_i (hEq ev3 (hL2I (hModL (by decide) g5 rfl l64_4294967296))) ?_
    obtain ⟨z4, ez4, h⟩ := stN_o h
    refine stM_i (pI_i ez4 (hL2I (hDivL (by decide) g5 rfl l64_4294967296))) ?_
    refine i_Y_step_37 (fun Xx4 x4 z11 h hx4 => ?_) (fun Xx4 x4 z18 h hx4 => ?_) (fun Xx3 x3 z31 h hx3 => ?_) FU h rfl l32_0
    · subst hx4
      obtain ⟨j12, ej12, h⟩ := bnd h
      refine bnd_i (aix_i (by decide) ej12 rfl) ?_
      obtain ⟨z13, ez13, h⟩ := stN_o h
      refine stM_i (pI_i ez13 l32_m1) ?_
      obtain ⟨j14, ej14, h⟩ := bnd h
      refine bnd_i (aix_i (by decide) ej14 rfl) ?_
      obtain ⟨z15, ez15, h⟩ := bnd h
      refine bnd_i (i_Y_note ez15 l32_1 rfl rfl) ?_
      obtain ⟨z16, ez16, h⟩ := bnd h
      refine bnd_i (i_Y_fill ez16 rfl) ?_
      obtain ⟨_, g6, h⟩ := bnd h
      refine bnd_i (bz_i g6 l32_1) ?_
      exact ret_i l32_1 h
    · subst hx4
      obtain ⟨j19, ej19, h⟩ := bnd h
      refine bnd_i (aix_i (by decide) ej19 rfl) ?_
      obtain ⟨z20, ez20, h⟩ := stN_o h
      refine stM_i (pI_i ez20 l32_m1) ?_
      obtain ⟨j21, ej21, h⟩ := bnd h
      refine bnd_i (aix_i (by decide) ej21 (hAdd (hMul l32_4 rfl) l32_3)) ?_
      obtain ⟨j22, ej22, h⟩ := bnd h
      refine bnd_i (aix_i (by decide) ej22 (hAdd (hMul l32_4 rfl) l32_3)) ?_
      obtain ⟨z23, ez23, h⟩ := stN_o h
      refine stM_i (pI_i ez23 (hAdd rfl l32_1)) ?_
      obtain ⟨j24, ej24, h⟩ := bnd h
      refine bnd_i (aix_i (by decide) ej24 rfl) ?_
      obtain ⟨z25, ez25, h⟩ := bnd h
      refine bnd_i (i_Y_note ez25 l32_4 rfl rfl) ?_
      obtain ⟨j26, ej26, h⟩ := bnd h
      refine bnd_i (aix_i (by decide) ej26 rfl) ?_
      obtain ⟨j27, ej27, h⟩ := bnd h
      refine bnd_i (aix_i (by decide) ej27 rfl) ?_
      obtain ⟨z28, ez28, h⟩ := stN_o h
      refine stM_i (pI_i ez28 rfl) ?_
      obtain ⟨z29, ez29, h⟩ := bnd h
      refine bnd_i (i_Y_fill ez29 rfl) ?_
      obtain ⟨_, g7, h⟩ := bnd h
      refine bnd_i (bz_i g7 l32_1) ?_
      exact ret_i l32_1 h
    · subst hx3
      refine i_Y_step_188 (fun Xx4 x4 z34 h hx4 => ?_) (fun z37 h  => ?_) FU h rfl l32_0
      · subst hx4
        obtain ⟨z35, ez35, h⟩ := bnd h
        refine bnd_i (i_Y_moved ez35 rfl) ?_
        obtain ⟨_, g8, h⟩ := bnd h
        refine bnd_i (bz_i g8 l32_1) ?_
        exact ret_i l32_1 h
      · obtain ⟨_, g9, h⟩ := bnd h
        refine bnd_i (bz_i g9 l32_1) ?_
        exact ret_i l32_1 h
set_option maxRecDepth 20000 in
theorem i_Y_run_14 {Kk32 : Int32 → Mem → Option (Int32 × Mem)} {k32 : Int → MemI → Option (Int × MemI)} {r0 : Int} {a0 : MemI}
    (hk32 : ∀ (Xy0 : Int32) (y0 : Int) (y1 : MemI), k32 y0 y1 = some (r0, a0) → Xy0 = Int32.ofInt y0 → Kk32 Xy0 (EE y1) = some (Int32.ofInt r0, EE a0)) :
    ∀ (n : Nat) {Xx1 : Int32} {Xx2 : Int32} {x1 : Int} {x2 : Int} {z : MemI}, di_Y_run_14 k32 n x1 x2 z = some (r0, a0) → Xx1 = Int32.ofInt x1 → Xx2 = Int32.ofInt x2 → dn_Y_run_14 Kk32 n Xx1 Xx2 (EE z) = some (Int32.ofInt r0, EE a0) := by
  intro n
  induction n with
  | zero =>
    intro Xx1 Xx2 x1 x2 z h hx1 hx2
    cases h
  | succ n ih =>
    intro Xx1 Xx2 x1 x2 z h hx1 hx2
    subst hx1 hx2
    rw [di_Y_run_14] at h
    rw [dn_Y_run_14]
    obtain ⟨_, g1, h⟩ := bnd h
    obtain ⟨_, g2, h⟩ := bnd h
    by_cases hc3 : x1 ≤ x2
    · have h := ite_t h hc3
      refine ite_gt (le_i (x := x1) (y := x2) (rg_some g1) (rg_some g2) rfl rfl) hc3 ?_
      exact hk32 _ _ _ h rfl
    · have h := ite_f h hc3
      refine ite_gf (le_i (x := x1) (y := x2) (rg_some g1) (rg_some g2) rfl rfl) hc3 ?_
      obtain ⟨⟨v1, z1⟩, er1, h⟩ := bnd h
      refine bnd_i (i_Y_step er1 ) ?_
      obtain ⟨_, g4, h⟩ := bnd h
      by_cases hc5 : v1 = (0 : Int)
      · have h := ite_t h hc5
        refine ite_gt (eq_i (x := v1) (y := (0 : Int)) (rg_some g4) (by decide) rfl l32_0) hc5 ?_
        exact hk32 _ _ _ h rfl
      · have h := ite_f h hc5
        refine ite_gf (eq_i (x := v1) (y := (0 : Int)) (rg_some g4) (by decide) rfl l32_0) hc5 ?_
        exact ih h rfl (hAdd rfl l32_1)
set_option maxRecDepth 20000 in
theorem i_Y_run {Xx1 : Int32} {x1 : Int} {z : MemI} {r0 : Int} {a0 : MemI} (h : di_Y_run x1 z = some (r0, a0)) (hx1 : Xx1 = Int32.ofInt x1) : dn_Y_run Xx1 (EE z) = some (Int32.ofInt r0, EE a0) := by
  subst hx1
  unfold di_Y_run at h
  unfold dn_Y_run
  obtain ⟨_, g1, h⟩ := bnd h
  by_cases hc2 : x1 < (0 : Int)
  · have h := ite_t h hc2
    refine ite_gt (lt_i (x := x1) (y := (0 : Int)) (rg_some g1) (by decide) rfl l32_0) hc2 ?_
    exact ret_i l32_m1 h
  · have h := ite_f h hc2
    refine ite_gf (lt_i (x := x1) (y := (0 : Int)) (rg_some g1) (by decide) rfl l32_0) hc2 ?_
    by_cases hc3 : x1 ≤ (50 : Int)
    · have h := ite_t h hc3
      refine ite_gt (le_i (x := x1) (y := (50 : Int)) (rg_some g1) (by decide) rfl l32_50) hc3 ?_
      refine i_Y_run_14 (fun Xx2 x2 z2 h hx2 => ?_) FU h rfl l32_0
      · subst hx2
        exact ret_i rfl h
    · have h := ite_f h hc3
      refine ite_gf (le_i (x := x1) (y := (50 : Int)) (rg_some g1) (by decide) rfl l32_50) hc3 ?_
      exact ret_i l32_m1 h
set_option maxRecDepth 20000 in
theorem i_Y_now {z : MemI} {r0 : Int} {a0 : MemI} (h : di_Y_now z = some (r0, a0))  : dn_Y_now (EE z) = some (Int32.ofInt r0, EE a0) := by
  unfold di_Y_now at h
  unfold dn_Y_now
  exact ret_i rfl h
set_option maxRecDepth 20000 in
theorem i_Y_trace {Xx1 : Int32} {x1 : Int} {z : MemI} {r0 : Int} {a0 : MemI} (h : di_Y_trace x1 z = some (r0, a0)) (hx1 : Xx1 = Int32.ofInt x1) : dn_Y_trace Xx1 (EE z) = some (Int64.ofInt r0, EE a0) := by
  subst hx1
  unfold di_Y_trace at h
  unfold dn_Y_trace
  obtain ⟨_, g1, h⟩ := bnd h
  by_cases hc2 : x1 < (0 : Int)
  · have h := ite_t h hc2
    refine ite_gt (lt_i (x := x1) (y := (0 : Int)) (rg_some g1) (by decide) rfl l32_0) hc2 ?_
    exact retj_i l64_m1 h
  · have h := ite_f h hc2
    refine ite_gf (lt_i (x := x1) (y := (0 : Int)) (rg_some g1) (by decide) rfl l32_0) hc2 ?_
    by_cases hc3 : (15 : Int) < x1
    · have h := ite_t h hc3
      refine ite_gt (lt_i (x := (15 : Int)) (y := x1) (by decide) (rg_some g1) l32_15 rfl) hc3 ?_
      exact retj_i l64_m1 h
    · have h := ite_f h hc3
      refine ite_gf (lt_i (x := (15 : Int)) (y := x1) (by decide) (rg_some g1) l32_15 rfl) hc3 ?_
      obtain ⟨_, g4, h⟩ := bnd h
      by_cases hc5 : x1 < (z.1 0 0 38)
      · have h := ite_t h hc5
        refine ite_gt (lt_i (x := x1) (y := (z.1 0 0 38)) (rg_some g1) (rg_some g4) rfl rfl) hc5 ?_
        obtain ⟨_, g6, h⟩ := bnd h
        obtain ⟨j1, ej1, h⟩ := bnd h
        refine bnd_i (aix_i (by decide) ej1 (hMod (by decide) g6 (hSub (hSub rfl l32_1) rfl) l32_16)) ?_
        exact retj_i rfl h
      · have h := ite_f h hc5
        refine ite_gf (lt_i (x := x1) (y := (z.1 0 0 38)) (rg_some g1) (rg_some g4) rfl rfl) hc5 ?_
        exact retj_i l64_m1 h
set_option maxRecDepth 20000 in
theorem i_Y_waiting {Xx1 : Int32} {Xx2 : Int32} {x1 : Int} {x2 : Int} {z : MemI} {r0 : Int} {a0 : MemI} (h : di_Y_waiting x1 x2 z = some (r0, a0)) (hx1 : Xx1 = Int32.ofInt x1) (hx2 : Xx2 = Int32.ofInt x2) : dn_Y_waiting Xx1 Xx2 (EE z) = some (Int32.ofInt r0, EE a0) := by
  subst hx1 hx2
  unfold di_Y_waiting at h
  unfold dn_Y_waiting
  obtain ⟨⟨v1, z1⟩, er1, h⟩ := bnd h
  refine bnd_i (i_Y_isPort er1 rfl) ?_
  obtain ⟨_, g1, h⟩ := bnd h
  by_cases hc2 : v1 = (0 : Int)
  · have h := ite_t h hc2
    refine ite_gt (eq_i (x := v1) (y := (0 : Int)) (rg_some g1) (by decide) rfl l32_0) hc2 ?_
    exact ret_i l32_m1 h
  · have h := ite_f h hc2
    refine ite_gf (eq_i (x := v1) (y := (0 : Int)) (rg_some g1) (by decide) rfl l32_0) hc2 ?_
    obtain ⟨_, g3, h⟩ := bnd h
    by_cases hc4 : x2 = (-1 : Int)
    · have h := ite_t h hc4
      refine ite_gt (eq_i (x := x2) (y := (-1 : Int)) (rg_some g3) (by decide) rfl l32_m1) hc4 ?_
      obtain ⟨⟨v2, z2⟩, er2, h⟩ := bnd h
      refine bnd_i (i_Y_queued er2 rfl rfl) ?_
      exact ret_i rfl h
    · have h := ite_f h hc4
      refine ite_gf (eq_i (x := x2) (y := (-1 : Int)) (rg_some g3) (by decide) rfl l32_m1) hc4 ?_
      obtain ⟨⟨v3, z3⟩, er3, h⟩ := bnd h
      refine bnd_i (i_Y_isFlow er3 rfl) ?_
      obtain ⟨_, g5, h⟩ := bnd h
      by_cases hc6 : v3 = (0 : Int)
      · have h := ite_t h hc6
        refine ite_gt (eq_i (x := v3) (y := (0 : Int)) (rg_some g5) (by decide) rfl l32_0) hc6 ?_
        exact ret_i l32_m1 h
      · have h := ite_f h hc6
        refine ite_gf (eq_i (x := v3) (y := (0 : Int)) (rg_some g5) (by decide) rfl l32_0) hc6 ?_
        obtain ⟨⟨v4, z4⟩, er4, h⟩ := bnd h
        refine bnd_i (i_Y_queued er4 rfl rfl) ?_
        exact ret_i rfl h
set_option maxRecDepth 20000 in
theorem i_Y_deficit {Xx1 : Int32} {Xx2 : Int32} {x1 : Int} {x2 : Int} {z : MemI} {r0 : Int} {a0 : MemI} (h : di_Y_deficit x1 x2 z = some (r0, a0)) (hx1 : Xx1 = Int32.ofInt x1) (hx2 : Xx2 = Int32.ofInt x2) : dn_Y_deficit Xx1 Xx2 (EE z) = some (Int32.ofInt r0, EE a0) := by
  subst hx1 hx2
  unfold di_Y_deficit at h
  unfold dn_Y_deficit
  obtain ⟨⟨v1, z1⟩, er1, h⟩ := bnd h
  refine bnd_i (i_Y_isPort er1 rfl) ?_
  obtain ⟨_, g1, h⟩ := bnd h
  by_cases hc2 : v1 = (0 : Int)
  · have h := ite_t h hc2
    refine ite_gt (eq_i (x := v1) (y := (0 : Int)) (rg_some g1) (by decide) rfl l32_0) hc2 ?_
    exact ret_i l32_m1 h
  · have h := ite_f h hc2
    refine ite_gf (eq_i (x := v1) (y := (0 : Int)) (rg_some g1) (by decide) rfl l32_0) hc2 ?_
    obtain ⟨⟨v2, z2⟩, er2, h⟩ := bnd h
    refine bnd_i (i_Y_isFlow er2 rfl) ?_
    obtain ⟨_, g3, h⟩ := bnd h
    by_cases hc4 : v2 = (0 : Int)
    · have h := ite_t h hc4
      refine ite_gt (eq_i (x := v2) (y := (0 : Int)) (rg_some g3) (by decide) rfl l32_0) hc4 ?_
      exact ret_i l32_m1 h
    · have h := ite_f h hc4
      refine ite_gf (eq_i (x := v2) (y := (0 : Int)) (rg_some g3) (by decide) rfl l32_0) hc4 ?_
      obtain ⟨⟨v3, z3⟩, er3, h⟩ := bnd h
      refine bnd_i (i_Y_queued er3 rfl rfl) ?_
      obtain ⟨_, g5, h⟩ := bnd h
      by_cases hc6 : v3 = (0 : Int)
      · have h := ite_t h hc6
        refine ite_gt (eq_i (x := v3) (y := (0 : Int)) (rg_some g5) (by decide) rfl l32_0) hc6 ?_
        exact ret_i l32_0 h
      · have h := ite_f h hc6
        refine ite_gf (eq_i (x := v3) (y := (0 : Int)) (rg_some g5) (by decide) rfl l32_0) hc6 ?_
        obtain ⟨j4, ej4, h⟩ := bnd h
        refine bnd_i (aix_i (by decide) ej4 (hAdd (hMul l32_6 rfl) rfl)) ?_
        exact ret_i rfl h
set_option maxRecDepth 20000 in
theorem i_Y_onPort {Xx1 : Int32} {x1 : Int} {z : MemI} {r0 : Int} {a0 : MemI} (h : di_Y_onPort x1 z = some (r0, a0)) (hx1 : Xx1 = Int32.ofInt x1) : dn_Y_onPort Xx1 (EE z) = some (Int32.ofInt r0, EE a0) := by
  subst hx1
  unfold di_Y_onPort at h
  unfold dn_Y_onPort
  obtain ⟨⟨v1, z1⟩, er1, h⟩ := bnd h
  refine bnd_i (i_Y_isPort er1 rfl) ?_
  obtain ⟨_, g1, h⟩ := bnd h
  by_cases hc2 : v1 = (0 : Int)
  · have h := ite_t h hc2
    refine ite_gt (eq_i (x := v1) (y := (0 : Int)) (rg_some g1) (by decide) rfl l32_0) hc2 ?_
    by_cases hc3 : (-1 : Int) = (-1 : Int)
    · have h := ite_t h hc3
      refine ite_gt (eq_i (x := (-1 : Int)) (y := (-1 : Int)) (by decide) (by decide) l32_m1 l32_m1) hc3 ?_
      exact ret_i l32_m1 h
    · have h := ite_f h hc3
      refine ite_gf (eq_i (x := (-1 : Int)) (y := (-1 : Int)) (by decide) (by decide) l32_m1 l32_m1) hc3 ?_
      obtain ⟨j2, ej2, h⟩ := bnd h
      refine bnd_i (aix_i (by decide) ej2 l32_m1) ?_
      obtain ⟨j3, ej3, h⟩ := bnd h
      refine bnd_i (aix_i (by decide) ej3 l32_m1) ?_
      obtain ⟨j4, ej4, h⟩ := bnd h
      refine bnd_i (aix_i (by decide) ej4 l32_m1) ?_
      obtain ⟨_, g4, h⟩ := bnd h
      by_cases hc5 : (z1.1 27 0 j4) = (0 : Int)
      · have h := ite_t h hc5
        refine ite_gt (eq_i (x := (z1.1 27 0 j4)) (y := (0 : Int)) (rg_some g4) (by decide) rfl l32_0) hc5 ?_
        exact ret_i (hAdd (hAdd (hMul l32_256 rfl) rfl) l32_0) h
      · have h := ite_f h hc5
        refine ite_gf (eq_i (x := (z1.1 27 0 j4)) (y := (0 : Int)) (rg_some g4) (by decide) rfl l32_0) hc5 ?_
        exact ret_i (hAdd (hAdd (hMul l32_256 rfl) rfl) l32_128) h
  · have h := ite_f h hc2
    refine ite_gf (eq_i (x := v1) (y := (0 : Int)) (rg_some g1) (by decide) rfl l32_0) hc2 ?_
    obtain ⟨⟨v5, z5⟩, er5, h⟩ := bnd h
    refine bnd_i (i_Y_on er5 rfl) ?_
    obtain ⟨_, g6, h⟩ := bnd h
    by_cases hc7 : v5 = (-1 : Int)
    · have h := ite_t h hc7
      refine ite_gt (eq_i (x := v5) (y := (-1 : Int)) (rg_some g6) (by decide) rfl l32_m1) hc7 ?_
      exact ret_i l32_m1 h
    · have h := ite_f h hc7
      refine ite_gf (eq_i (x := v5) (y := (-1 : Int)) (rg_some g6) (by decide) rfl l32_m1) hc7 ?_
      obtain ⟨j6, ej6, h⟩ := bnd h
      refine bnd_i (aix_i (by decide) ej6 rfl) ?_
      obtain ⟨j7, ej7, h⟩ := bnd h
      refine bnd_i (aix_i (by decide) ej7 rfl) ?_
      obtain ⟨j8, ej8, h⟩ := bnd h
      refine bnd_i (aix_i (by decide) ej8 rfl) ?_
      obtain ⟨_, g8, h⟩ := bnd h
      by_cases hc9 : (z5.1 27 0 j8) = (0 : Int)
      · have h := ite_t h hc9
        refine ite_gt (eq_i (x := (z5.1 27 0 j8)) (y := (0 : Int)) (rg_some g8) (by decide) rfl l32_0) hc9 ?_
        exact ret_i (hAdd (hAdd (hMul l32_256 rfl) rfl) l32_0) h
      · have h := ite_f h hc9
        refine ite_gf (eq_i (x := (z5.1 27 0 j8)) (y := (0 : Int)) (rg_some g8) (by decide) rfl l32_0) hc9 ?_
        exact ret_i (hAdd (hAdd (hMul l32_256 rfl) rfl) l32_128) h
set_option maxRecDepth 20000 in
theorem i_Y_timer {Xx1 : Int32} {x1 : Int} {z : MemI} {r0 : Int} {a0 : MemI} (h : di_Y_timer x1 z = some (r0, a0)) (hx1 : Xx1 = Int32.ofInt x1) : dn_Y_timer Xx1 (EE z) = some (Int32.ofInt r0, EE a0) := by
  subst hx1
  unfold di_Y_timer at h
  unfold dn_Y_timer
  obtain ⟨⟨v1, z1⟩, er1, h⟩ := bnd h
  refine bnd_i (i_Y_isFlow er1 rfl) ?_
  obtain ⟨_, g1, h⟩ := bnd h
  by_cases hc2 : v1 = (0 : Int)
  · have h := ite_t h hc2
    refine ite_gt (eq_i (x := v1) (y := (0 : Int)) (rg_some g1) (by decide) rfl l32_0) hc2 ?_
    exact ret_i l32_m1 h
  · have h := ite_f h hc2
    refine ite_gf (eq_i (x := v1) (y := (0 : Int)) (rg_some g1) (by decide) rfl l32_0) hc2 ?_
    obtain ⟨j2, ej2, h⟩ := bnd h
    refine bnd_i (aix_i (by decide) ej2 rfl) ?_
    exact ret_i rfl h
set_option maxRecDepth 20000 in
theorem i_Y_count {Xx1 : Int32} {Xx2 : Int32} {x1 : Int} {x2 : Int} {z : MemI} {r0 : Int} {a0 : MemI} (h : di_Y_count x1 x2 z = some (r0, a0)) (hx1 : Xx1 = Int32.ofInt x1) (hx2 : Xx2 = Int32.ofInt x2) : dn_Y_count Xx1 Xx2 (EE z) = some (Int32.ofInt r0, EE a0) := by
  subst hx1 hx2
  unfold di_Y_count at h
  unfold dn_Y_count
  obtain ⟨⟨v1, z1⟩, er1, h⟩ := bnd h
  refine bnd_i (i_Y_isFlow er1 rfl) ?_
  obtain ⟨_, g1, h⟩ := bnd h
  by_cases hc2 : v1 = (0 : Int)
  · have h := ite_t h hc2
    refine ite_gt (eq_i (x := v1) (y := (0 : Int)) (rg_some g1) (by decide) rfl l32_0) hc2 ?_
    exact ret_i l32_m1 h
  · have h := ite_f h hc2
    refine ite_gf (eq_i (x := v1) (y := (0 : Int)) (rg_some g1) (by decide) rfl l32_0) hc2 ?_
    obtain ⟨_, g3, h⟩ := bnd h
    by_cases hc4 : x2 < (0 : Int)
    · have h := ite_t h hc4
      refine ite_gt (lt_i (x := x2) (y := (0 : Int)) (rg_some g3) (by decide) rfl l32_0) hc4 ?_
      exact ret_i l32_m1 h
    · have h := ite_f h hc4
      refine ite_gf (lt_i (x := x2) (y := (0 : Int)) (rg_some g3) (by decide) rfl l32_0) hc4 ?_
      by_cases hc5 : x2 ≤ (6 : Int)
      · have h := ite_t h hc5
        refine ite_gt (le_i (x := x2) (y := (6 : Int)) (rg_some g3) (by decide) rfl l32_6) hc5 ?_
        by_cases hc6 : (3 : Int) ≤ x2
        · have h := ite_t h hc6
          refine ite_gt (le_i (x := (3 : Int)) (y := x2) (by decide) (rg_some g3) l32_3 rfl) hc6 ?_
          obtain ⟨j2, ej2, h⟩ := bnd h
          refine bnd_i (aix_i (by decide) ej2 (hSub (hAdd (hMul l32_4 rfl) rfl) l32_3)) ?_
          exact ret_i rfl h
        · have h := ite_f h hc6
          refine ite_gf (le_i (x := (3 : Int)) (y := x2) (by decide) (rg_some g3) l32_3 rfl) hc6 ?_
          by_cases hc7 : x2 = (0 : Int)
          · have h := ite_t h hc7
            refine ite_gt (eq_i (x := x2) (y := (0 : Int)) (rg_some g3) (by decide) rfl l32_0) hc7 ?_
            obtain ⟨j5, ej5, h⟩ := bnd h
            refine bnd_i (aix_i (by decide) ej5 rfl) ?_
            exact ret_i rfl h
          · have h := ite_f h hc7
            refine ite_gf (eq_i (x := x2) (y := (0 : Int)) (rg_some g3) (by decide) rfl l32_0) hc7 ?_
            by_cases hc8 : x2 = (1 : Int)
            · have h := ite_t h hc8
              refine ite_gt (eq_i (x := x2) (y := (1 : Int)) (rg_some g3) (by decide) rfl l32_1) hc8 ?_
              obtain ⟨j4, ej4, h⟩ := bnd h
              refine bnd_i (aix_i (by decide) ej4 rfl) ?_
              exact ret_i rfl h
            · have h := ite_f h hc8
              refine ite_gf (eq_i (x := x2) (y := (1 : Int)) (rg_some g3) (by decide) rfl l32_1) hc8 ?_
              obtain ⟨j3, ej3, h⟩ := bnd h
              refine bnd_i (aix_i (by decide) ej3 rfl) ?_
              exact ret_i rfl h
      · have h := ite_f h hc5
        refine ite_gf (le_i (x := x2) (y := (6 : Int)) (rg_some g3) (by decide) rfl l32_6) hc5 ?_
        exact ret_i l32_m1 h
