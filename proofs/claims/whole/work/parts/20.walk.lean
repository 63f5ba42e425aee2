set_option maxHeartbeats 4000000 in
set_option maxRecDepth 100000 in
theorem c_X_isNode (l : Launch) (x0 : Int32) (r0 : Int32) (h : dn_X_isNode x0 = some r0) : MtP l y_X_isNode b_X_isNode 1 (some .boolean) rm_X_isNode [.int x0] (QPI r0) := by
  refine mtP_of (by decide) (Nat.le_of_ble_eq_true rfl) ?_
  intro p e s m args below meth c ls C hl
  obtain ⟨hx, hb, hml, hr, hown, hts, hlk⟩ := C
  have hl : lv_has ls 1 [(0, .int x0)] := hl
  unfold dn_X_isNode at h
  refine lv_iload_n hx hb d_X_isNode_0 rfl (lv_at hl 0 rfl) ?_
  refine lv_if_lt (tgt := 14) hx hb d_X_isNode_1 (by decide) (fun hc => ?_) (fun hc => ?_)
  · have h := ite_t h hc
    refine lv_iconst (v := (0 : Int32)) hx hb d_X_isNode_14 (by decide) ?_
    obtain ⟨_, u1, h⟩ := bnd h
    exact q_zretP hx hb hr hlk (bz_some u1) h d_X_isNode_15
  · have h := ite_f h hc
    refine lv_iload_n hx hb d_X_isNode_4 rfl (lv_at hl 0 rfl) ?_
    refine lv_bipush (v := (8 : Int32)) hx hb d_X_isNode_5 (by decide) ?_
    refine lv_icmp_ge (tgt := 14) hx hb d_X_isNode_7 (by decide) (fun hc => ?_) (fun hc => ?_)
    · have h := ite_t h hc
      refine lv_iconst (v := (0 : Int32)) hx hb d_X_isNode_14 (by decide) ?_
      obtain ⟨_, u2, h⟩ := bnd h
      exact q_zretP hx hb hr hlk (bz_some u2) h d_X_isNode_15
    · have h := ite_f h hc
      refine lv_iconst (v := (1 : Int32)) hx hb d_X_isNode_10 (by decide) ?_
      refine lv_goto (tgt := 15) hx hb d_X_isNode_11 (by decide) ?_
      obtain ⟨_, u3, h⟩ := bnd h
      exact q_zretP hx hb hr hlk (bz_some u3) h d_X_isNode_15
set_option maxHeartbeats 4000000 in
set_option maxRecDepth 100000 in
theorem c_X_isWithin (l : Launch) (x0 : Int32) (x1 : Int32) (x2 : Int32) (r0 : Int32) (h : dn_X_isWithin x0 x1 x2 = some r0) : MtP l y_X_isWithin b_X_isWithin 3 (some .boolean) rm_X_isWithin [.int x0, .int x1, .int x2] (QPI r0) := by
  refine mtP_of (by decide) (Nat.le_of_ble_eq_true rfl) ?_
  intro p e s m args below meth c ls C hl
  obtain ⟨hx, hb, hml, hr, hown, hts, hlk⟩ := C
  have hl : lv_has ls 3 [(0, .int x0), (1, .int x1), (2, .int x2)] := hl
  unfold dn_X_isWithin at h
  refine lv_iload_n hx hb d_X_isWithin_0 rfl (lv_at hl 0 rfl) ?_
  refine lv_iload_n hx hb d_X_isWithin_1 rfl (lv_at hl 1 rfl) ?_
  refine lv_icmp_lt (tgt := 14) hx hb d_X_isWithin_2 (by decide) (fun hc => ?_) (fun hc => ?_)
  · have h := ite_t h hc
    refine lv_iconst (v := (0 : Int32)) hx hb d_X_isWithin_14 (by decide) ?_
    obtain ⟨_, u1, h⟩ := bnd h
    exact q_zretP hx hb hr hlk (bz_some u1) h d_X_isWithin_15
  · have h := ite_f h hc
    refine lv_iload_n hx hb d_X_isWithin_5 rfl (lv_at hl 0 rfl) ?_
    refine lv_iload_n hx hb d_X_isWithin_6 rfl (lv_at hl 2 rfl) ?_
    refine lv_icmp_gt (tgt := 14) hx hb d_X_isWithin_7 (by decide) (fun hc => ?_) (fun hc => ?_)
    · have h := ite_t h hc
      refine lv_iconst (v := (0 : Int32)) hx hb d_X_isWithin_14 (by decide) ?_
      obtain ⟨_, u2, h⟩ := bnd h
      exact q_zretP hx hb hr hlk (bz_some u2) h d_X_isWithin_15
    · have h := ite_f h hc
      refine lv_iconst (v := (1 : Int32)) hx hb d_X_isWithin_10 (by decide) ?_
      refine lv_goto (tgt := 15) hx hb d_X_isWithin_11 (by decide) ?_
      obtain ⟨_, u3, h⟩ := bnd h
      exact q_zretP hx hb hr hlk (bz_some u3) h d_X_isWithin_15
set_option maxHeartbeats 4000000 in
set_option maxRecDepth 100000 in
theorem w_J_fillX7_5 {p : Program} {l : Launch} {e : Env} {s : State} {m : MethodId} {args : Array Value} {below : List Frame} {meth : Method} {c : Code} {G : GG} {b : Nat} {z0 : Mem} (C : Cx y_J_fill0 b_J_fill0 4 none p s m args meth c G) {k20 : Mem → Option Mem} 
    (hk20 : ∀  (z : Mem) (ls : Array Slot) (H : Heap) (locs : List Loc), Wd LX G b z H → va_S (rgL LX b) s.heap H locs → lv_has ls 4 [] → k20  z = some z0 → W p l e rm_J_fillX7 s m args below meth c H locs 0 0 (MQ below (QV LX G b z0) args s 0 0 (rgL LX b)) (F0 m 20 ls [])) :
    ∀ (n : Nat) (x0 : Nat) (x1 : Int32) (x2 : Int32) (x3 : Int32) (z : Mem) (ls : Array Slot) (H : Heap) (locs : List Loc), x0 < 24 → Wd LX G b z H → va_S (rgL LX b) s.heap H locs → lv_has ls 4 [(0, .ref (ad LX b 7 x0)), (1, .int x1), (2, .int x2), (3, .int x3)] → dn_J_fillX7_5 k20 n x0 x1 x2 x3 z = some z0 → W p l e rm_J_fillX7 s m args below meth c H locs 0 0 (MQ below (QV LX G b z0) args s 0 0 (rgL LX b)) (F0 m 5 ls []) := by
  obtain ⟨hx, hb, hml, hr, hown, hts, hlk, hK⟩ := C
  intro n
  induction n with
  | zero =>
    intro x0 x1 x2 x3 z ls H locs qx0 hW hS hl h
    cases h
  | succ n ih =>
    intro x0 x1 x2 x3 z ls H locs qx0 hW hS hl h
    rw [dn_J_fillX7_5] at h
    refine lv_iload_n hx hb d_J_fill0_5 rfl (lv_at hl 2 rfl) ?_
    refine lv_iload_n hx hb d_J_fill0_6 rfl (lv_at hl 3 rfl) ?_
    refine lv_icmp_ge (tgt := 20) hx hb d_J_fill0_7 (by decide) (fun hc => ?_) (fun hc => ?_)
    · have h := ite_t h hc
      exact hk20  z ls H locs  hW hS (lv_sub hl [] rfl) h
    · have h := ite_f h hc
      refine lv_aload_n hx hb d_J_fill0_10 rfl (lv_at hl 0 rfl) ?_
      refine lv_iload_n hx hb d_J_fill0_11 rfl (lv_at hl 2 rfl) ?_
      refine lv_iload_n hx hb d_J_fill0_12 rfl (lv_at hl 1 rfl) ?_
      obtain ⟨j1, ej1, h⟩ := bnd h
      refine q_iast (L := LX) (kc := 7) (ki := x0) hx hb hK hW hS (okX7 qx0) (fun _ => rfl) ej1 d_J_fill0_13 (fun H locs z2 ez2 hW hS => ?_)
      have h := stM_n h ez2
      refine lv_iinc (k := 2) (v := (x2 + (1 : Int32))) hx hb d_J_fill0_14 hl rfl rfl (by decide) rfl (fun ls hl => ?_)
      have hl : lv_has ls 4 [(2, .int (x2 + (1 : Int32))), (0, .ref (ad LX b 7 x0)), (1, .int x1), (3, .int x3)] := hl
      refine lv_goto (tgt := 5) hx hb d_J_fill0_17 (by decide) ?_
      exact ih x0 x1 (x2 + (1 : Int32)) x3 z2 ls H locs qx0 hW hS (lv_sub hl [1, 2, 0, 3] rfl) h
set_option maxHeartbeats 4000000 in
set_option maxRecDepth 100000 in
theorem c_J_fillX7 (l : Launch) (G : GG) (b : Nat) (x0 : Nat) (x1 : Int32) (z : Mem) (z0 : Mem) (qx0 : x0 < 24) (h : dn_J_fillX7 x0 x1 z = some z0) : MtW l y_J_fill0 b_J_fill0 4 none rm_J_fillX7 LX G b [.ref (ad LX b 7 x0), .int x1] z (QV LX G b z0) := by
  refine mtW_of (by decide) (Nat.le_of_ble_eq_true rfl) ?_
  intro p e s m args below meth c ls H locs C hW hS hl
  obtain ⟨hx, hb, hml, hr, hown, hts, hlk, hK⟩ := C
  have hl : lv_has ls 4 [(0, .ref (ad LX b 7 x0)), (1, .int x1)] := hl
  unfold dn_J_fillX7 at h
  refine lv_iconst (v := (0 : Int32)) hx hb d_J_fill0_0 (by decide) ?_
  refine lv_istore_n hx hb d_J_fill0_1 rfl hl (by decide) rfl (fun ls hl => ?_)
  have hl : lv_has ls 4 [(2, .int (0 : Int32)), (0, .ref (ad LX b 7 x0)), (1, .int x1)] := hl
  refine lv_aload_n hx hb d_J_fill0_2 rfl (lv_at hl 1 rfl) ?_
  refine q_alen (L := LX) (kc := 7) (ki := x0) (t0 := 0) (ty := .int) (v := (6 : Int32)) hx hb hK hW (okX7 qx0) rfl rfl rfl d_J_fill0_3 ?_
  refine lv_istore_n hx hb d_J_fill0_4 rfl hl (by decide) rfl (fun ls hl => ?_)
  have hl : lv_has ls 4 [(3, .int (6 : Int32)), (2, .int (0 : Int32)), (0, .ref (ad LX b 7 x0)), (1, .int x1)] := hl
  refine w_J_fillX7_5 ⟨hx, hb, hml, hr, hown, hts, hlk, hK⟩ (fun z3 ls H locs  hW hS hl h => ?_) FU x0 x1 (0 : Int32) (6 : Int32) z ls H locs qx0 hW hS (lv_sub hl [2, 3, 1, 0] rfl) h
  · exact q_vret hx hb hr hlk hK hW hS h d_J_fill0_20
set_option maxHeartbeats 4000000 in
set_option maxRecDepth 100000 in
theorem c_P_lay (l : Launch) (G : GG) (b : Nat) (x0 : Nat) (x1 : Int32) (x2 : Int32) (x3 : Int32) (x4 : Int32) (x5 : Int32) (z : Mem) (z0 : Mem) (qx0 : x0 < 24) (h : dn_P_lay x0 x1 x2 x3 x4 x5 z = some z0) : MtW l y_P_lay b_P_lay 6 none rm_P_lay LX G b [.ref (ad LX b 4 x0), .int x1, .int x2, .int x3, .int x4, .int x5] z (QV LX G b z0) := by
  refine mtW_of (by decide) (Nat.le_of_ble_eq_true rfl) ?_
  intro p e s m args below meth c ls H locs C hW hS hl
  obtain ⟨hx, hb, hml, hr, hown, hts, hlk, hK⟩ := C
  have hl : lv_has ls 6 [(0, .ref (ad LX b 4 x0)), (1, .int x1), (2, .int x2), (3, .int x3), (4, .int x4), (5, .int x5)] := hl
  unfold dn_P_lay at h
  refine lv_aload_n hx hb d_P_lay_0 rfl (lv_at hl 0 rfl) ?_
  refine lv_iload_n hx hb d_P_lay_1 rfl (lv_at hl 1 rfl) ?_
  refine q_put (L := LX) (kc := 4) (ki := x0) (C := "DeficitNet$Port") (T := T_P) (N := 14) (ci := 4) hx hb hts in_P ty_P tyok_P nm_P hown hK hW hS (okX4 qx0) rfl rfl 0 (by decide) t_27 rfl rfl rfl (Nat.le_of_ble_eq_true rfl) rfl d_P_lay_2 (fun H locs z1 ez1 hW hS => ?_)
  have h := stM_n h ez1
  refine lv_aload_n hx hb d_P_lay_5 rfl (lv_at hl 0 rfl) ?_
  refine lv_iload_n hx hb d_P_lay_6 rfl (lv_at hl 2 rfl) ?_
  refine q_put (L := LX) (kc := 4) (ki := x0) (C := "DeficitNet$Port") (T := T_P) (N := 14) (ci := 4) hx hb hts in_P ty_P tyok_P nm_P hown hK hW hS (okX4 qx0) rfl rfl 1 (by decide) t_29 rfl rfl rfl (Nat.le_of_ble_eq_true rfl) rfl d_P_lay_7 (fun H locs z2 ez2 hW hS => ?_)
  have h := stM_n h ez2
  refine lv_aload_n hx hb d_P_lay_10 rfl (lv_at hl 0 rfl) ?_
  refine lv_iload_n hx hb d_P_lay_11 rfl (lv_at hl 3 rfl) ?_
  refine q_put (L := LX) (kc := 4) (ki := x0) (C := "DeficitNet$Port") (T := T_P) (N := 14) (ci := 4) hx hb hts in_P ty_P tyok_P nm_P hown hK hW hS (okX4 qx0) rfl rfl 2 (by decide) t_31 rfl rfl rfl (Nat.le_of_ble_eq_true rfl) rfl d_P_lay_12 (fun H locs z3 ez3 hW hS => ?_)
  have h := stM_n h ez3
  refine lv_aload_n hx hb d_P_lay_15 rfl (lv_at hl 0 rfl) ?_
  refine lv_iload hx hb d_P_lay_16 (lv_at hl 4 rfl) ?_
  refine q_put (L := LX) (kc := 4) (ki := x0) (C := "DeficitNet$Port") (T := T_P) (N := 14) (ci := 4) hx hb hts in_P ty_P tyok_P nm_P hown hK hW hS (okX4 qx0) rfl rfl 3 (by decide) t_33 rfl rfl rfl (Nat.le_of_ble_eq_true rfl) rfl d_P_lay_18 (fun H locs z4 ez4 hW hS => ?_)
  have h := stM_n h ez4
  refine lv_aload_n hx hb d_P_lay_21 rfl (lv_at hl 0 rfl) ?_
  refine lv_iload hx hb d_P_lay_22 (lv_at hl 5 rfl) ?_
  refine q_put (L := LX) (kc := 4) (ki := x0) (C := "DeficitNet$Port") (T := T_P) (N := 14) (ci := 4) hx hb hts in_P ty_P tyok_P nm_P hown hK hW hS (okX4 qx0) rfl rfl 4 (by decide) t_35 rfl rfl rfl (Nat.le_of_ble_eq_true rfl) rfl d_P_lay_24 (fun H locs z5 ez5 hW hS => ?_)
  have h := stM_n h ez5
  refine lv_aload_n hx hb d_P_lay_27 rfl (lv_at hl 0 rfl) ?_
  refine lv_bipush (v := (8 : Int32)) hx hb d_P_lay_28 (by decide) ?_
  refine q_put (L := LX) (kc := 4) (ki := x0) (C := "DeficitNet$Port") (T := T_P) (N := 14) (ci := 4) hx hb hts in_P ty_P tyok_P nm_P hown hK hW hS (okX4 qx0) rfl rfl 5 (by decide) t_37 rfl rfl rfl (Nat.le_of_ble_eq_true rfl) rfl d_P_lay_30 (fun H locs z6 ez6 hW hS => ?_)
  have h := stM_n h ez6
  refine lv_aload_n hx hb d_P_lay_33 rfl (lv_at hl 0 rfl) ?_
  refine lv_iconst (v := (4 : Int32)) hx hb d_P_lay_34 (by decide) ?_
  refine q_put (L := LX) (kc := 4) (ki := x0) (C := "DeficitNet$Port") (T := T_P) (N := 14) (ci := 4) hx hb hts in_P ty_P tyok_P nm_P hown hK hW hS (okX4 qx0) rfl rfl 6 (by decide) t_39 rfl rfl rfl (Nat.le_of_ble_eq_true rfl) rfl d_P_lay_35 (fun H locs z7 ez7 hW hS => ?_)
  have h := stM_n h ez7
  refine lv_aload_n hx hb d_P_lay_38 rfl (lv_at hl 0 rfl) ?_
  refine lv_iconst (v := (-1 : Int32)) hx hb d_P_lay_39 (by decide) ?_
  refine q_put (L := LX) (kc := 4) (ki := x0) (C := "DeficitNet$Port") (T := T_P) (N := 14) (ci := 4) hx hb hts in_P ty_P tyok_P nm_P hown hK hW hS (okX4 qx0) rfl rfl 7 (by decide) t_41 rfl rfl rfl (Nat.le_of_ble_eq_true rfl) rfl d_P_lay_40 (fun H locs z8 ez8 hW hS => ?_)
  have h := stM_n h ez8
  refine lv_aload_n hx hb d_P_lay_43 rfl (lv_at hl 0 rfl) ?_
  refine lv_iconst (v := (0 : Int32)) hx hb d_P_lay_44 (by decide) ?_
  refine q_put (L := LX) (kc := 4) (ki := x0) (C := "DeficitNet$Port") (T := T_P) (N := 14) (ci := 4) hx hb hts in_P ty_P tyok_P nm_P hown hK hW hS (okX4 qx0) rfl rfl 8 (by decide) t_43 rfl rfl rfl (Nat.le_of_ble_eq_true rfl) rfl d_P_lay_45 (fun H locs z9 ez9 hW hS => ?_)
  have h := stM_n h ez9
  refine lv_aload_n hx hb d_P_lay_48 rfl (lv_at hl 0 rfl) ?_
  refine lv_iconst (v := (0 : Int32)) hx hb d_P_lay_49 (by decide) ?_
  refine q_put (L := LX) (kc := 4) (ki := x0) (C := "DeficitNet$Port") (T := T_P) (N := 14) (ci := 4) hx hb hts in_P ty_P tyok_P nm_P hown hK hW hS (okX4 qx0) rfl rfl 9 (by decide) t_45 rfl rfl rfl (Nat.le_of_ble_eq_true rfl) rfl d_P_lay_50 (fun H locs z10 ez10 hW hS => ?_)
  have h := stM_n h ez10
  refine lv_aload_n hx hb d_P_lay_53 rfl (lv_at hl 0 rfl) ?_
  refine lv_iconst (v := (0 : Int32)) hx hb d_P_lay_54 (by decide) ?_
  obtain ⟨_, u11, h⟩ := bnd h
  refine q_put (L := LX) (kc := 4) (ki := x0) (C := "DeficitNet$Port") (T := T_P) (N := 14) (ci := 4) hx hb hts in_P ty_P tyok_P nm_P hown hK hW hS (okX4 qx0) rfl rfl 10 (by decide) t_46 rfl (bz_nar (bz_some u11)) (bz_fit (bz_some u11)) (Nat.le_of_ble_eq_true rfl) rfl d_P_lay_55 (fun H locs z12 ez12 hW hS => ?_)
  have h := stM_n h ez12
  refine lv_aload_n hx hb d_P_lay_58 rfl (lv_at hl 0 rfl) ?_
  refine q_get (L := LX) (kc := 4) (ki := x0) (C := "DeficitNet$Port") (T := T_P) (N := 14) (ci := 4) (v := .ref (ad LX b 7 x0)) hx hb hts in_P hown hK hW (okX4 qx0) rfl rfl 13 (by decide) t_51 rfl d_P_lay_59 ?_
  refine lv_iconst (v := (0 : Int32)) hx hb d_P_lay_62 (by decide) ?_
  obtain ⟨z13, ez13, h⟩ := bnd h
  refine q_callSv (As := [.ref (ad LX b 7 x0), .int (0 : Int32)]) (rest := []) hx hb hml hown hts hK hW hS (c_J_fillX7 l G b x0 (0 : Int32) z12 z13 qx0 ez13) f_J_fill0 t_267 ⟨rfl, rfl⟩ ⟨Nat.le_of_ble_eq_true rfl, Nat.le_of_ble_eq_true rfl⟩ rfl hl.1 rfl (Nat.le_of_ble_eq_true rfl) d_P_lay_63 (fun H locs hW hS => ?_)
  exact q_vret hx hb hr hlk hK hW hS h d_P_lay_66
set_option maxHeartbeats 4000000 in
set_option maxRecDepth 100000 in
theorem w_X_shortenOver_13 {p : Program} {l : Launch} {e : Env} {s : State} {m : MethodId} {args : Array Value} {below : List Frame} {meth : Method} {c : Code} {G : GG} {b : Nat} {z0 : Mem} (C : Cx y_X_shortenOver b_X_shortenOver 7 none p s m args meth c G) {k119 : Int32 → Int32 → Int32 → Int32 → Mem → Option Mem} 
    (hk119 : ∀ (x1 : Int32) (x2 : Int32) (x3 : Int32) (x4 : Int32) (z : Mem) (ls : Array Slot) (H : Heap) (locs : List Loc), Wd LX G b z H → va_S (rgL LX b) s.heap H locs → lv_has ls 7 [(0, .ref (ad LX b 0 0)), (1, .int x1), (2, .int x2), (3, .int x3), (4, .int x4)] → k119 x1 x2 x3 x4 z = some z0 → W p l e rm_X_shortenOver s m args below meth c H locs 0 0 (MQ below (QV LX G b z0) args s 0 0 (rgL LX b)) (F0 m 119 ls [])) :
    ∀ (n : Nat) (x1 : Int32) (x2 : Int32) (x3 : Int32) (x4 : Int32) (x5 : Int32) (z : Mem) (ls : Array Slot) (H : Heap) (locs : List Loc), Wd LX G b z H → va_S (rgL LX b) s.heap H locs → lv_has ls 7 [(0, .ref (ad LX b 0 0)), (1, .int x1), (2, .int x2), (3, .int x3), (4, .int x4), (5, .int x5)] → dn_X_shortenOver_13 k119 n x1 x2 x3 x4 x5 z = some z0 → W p l e rm_X_shortenOver s m args below meth c H locs 0 0 (MQ below (QV LX G b z0) args s 0 0 (rgL LX b)) (F0 m 13 ls []) := by
  obtain ⟨hx, hb, hml, hr, hown, hts, hlk, hK⟩ := C
  intro n
  induction n with
  | zero =>
    intro x1 x2 x3 x4 x5 z ls H locs  hW hS hl h
    cases h
  | succ n ih =>
    intro x1 x2 x3 x4 x5 z ls H locs  hW hS hl h
    rw [dn_X_shortenOver_13] at h
    refine lv_iload hx hb d_X_shortenOver_13 (lv_at hl 5 rfl) ?_
    refine lv_bipush (v := (8 : Int32)) hx hb d_X_shortenOver_15 (by decide) ?_
    refine lv_icmp_ge (tgt := 119) hx hb d_X_shortenOver_17 (by decide) (fun hc => ?_) (fun hc => ?_)
    · have h := ite_t h hc
      exact hk119 x1 x2 x3 x4 z ls H locs  hW hS (lv_sub hl [0, 1, 2, 3, 4] rfl) h
    · have h := ite_f h hc
      refine lv_aload_n hx hb d_X_shortenOver_20 rfl (lv_at hl 0 rfl) ?_
      refine q_get (L := LX) (kc := 0) (ki := 0) (C := "DeficitNet") (T := T_X) (N := 10) (ci := 0) (v := .ref (ad LX b 1 0)) hx hb hts in_X hown hK hW okX0 rfl rfl 0 (by decide) t_221 rfl d_X_shortenOver_21 ?_
      refine lv_iload hx hb d_X_shortenOver_24 (lv_at hl 4 rfl) ?_
      obtain ⟨j1, ej1, h⟩ := bnd h
      refine q_aald (t0 := 3) (ty := (.array .int)) (kd := 2) (L := LX) (kc := 1) (ki := 0) hx hb hK hW okX1 rfl rfl rfl ej1 d_X_shortenOver_26 ?_
      refine lv_iload_n hx hb d_X_shortenOver_27 rfl (lv_at hl 1 rfl) ?_
      obtain ⟨j2, ej2, h⟩ := bnd h
      refine q_iald (L := LX) (kc := 2) (ki := j1) hx hb hK hW (okX2 (aix_lt ej1)) rfl ej2 d_X_shortenOver_28 ?_
      refine lv_iconst (v := (-1 : Int32)) hx hb d_X_shortenOver_29 (by decide) ?_
      refine lv_icmp_eq (tgt := 113) hx hb d_X_shortenOver_30 (by decide) (fun hc => ?_) (fun hc => ?_)
      · have h := ite_t h hc
        refine lv_iinc (k := 5) (v := (x5 + (1 : Int32))) hx hb d_X_shortenOver_113 hl rfl rfl (by decide) rfl (fun ls hl => ?_)
        have hl : lv_has ls 7 [(5, .int (x5 + (1 : Int32))), (0, .ref (ad LX b 0 0)), (1, .int x1), (2, .int x2), (3, .int x3), (4, .int x4)] := hl
        refine lv_goto (tgt := 13) hx hb d_X_shortenOver_116 (by decide) ?_
        exact ih x1 x2 x3 x4 (x5 + (1 : Int32)) z ls H locs  hW hS (lv_sub hl [1, 2, 3, 4, 5, 0] rfl) h
      · have h := ite_f h hc
        refine lv_aload_n hx hb d_X_shortenOver_33 rfl (lv_at hl 0 rfl) ?_
        refine q_get (L := LX) (kc := 0) (ki := 0) (C := "DeficitNet") (T := T_X) (N := 10) (ci := 0) (v := .ref (ad LX b 1 0)) hx hb hts in_X hown hK hW okX0 rfl rfl 0 (by decide) t_221 rfl d_X_shortenOver_34 ?_
        refine lv_iload_n hx hb d_X_shortenOver_37 rfl (lv_at hl 2 rfl) ?_
        obtain ⟨j3, ej3, h⟩ := bnd h
        refine q_aald (t0 := 3) (ty := (.array .int)) (kd := 2) (L := LX) (kc := 1) (ki := 0) hx hb hK hW okX1 rfl rfl rfl ej3 d_X_shortenOver_38 ?_
        refine lv_iload hx hb d_X_shortenOver_39 (lv_at hl 5 rfl) ?_
        obtain ⟨j4, ej4, h⟩ := bnd h
        refine q_iald (L := LX) (kc := 2) (ki := j3) hx hb hK hW (okX2 (aix_lt ej3)) rfl ej4 d_X_shortenOver_41 ?_
        refine lv_iconst (v := (-1 : Int32)) hx hb d_X_shortenOver_42 (by decide) ?_
        refine lv_icmp_ne (tgt := 49) hx hb d_X_shortenOver_43 (by decide) (fun hc => ?_) (fun hc => ?_)
        · have h := ite_f h hc
          refine lv_aload_n hx hb d_X_shortenOver_49 rfl (lv_at hl 0 rfl) ?_
          refine q_get (L := LX) (kc := 0) (ki := 0) (C := "DeficitNet") (T := T_X) (N := 10) (ci := 0) (v := .ref (ad LX b 1 0)) hx hb hts in_X hown hK hW okX0 rfl rfl 0 (by decide) t_221 rfl d_X_shortenOver_50 ?_
          refine lv_iload hx hb d_X_shortenOver_53 (lv_at hl 4 rfl) ?_
          obtain ⟨j5, ej5, h⟩ := bnd h
          refine q_aald (t0 := 3) (ty := (.array .int)) (kd := 2) (L := LX) (kc := 1) (ki := 0) hx hb hK hW okX1 rfl rfl rfl ej5 d_X_shortenOver_55 ?_
          refine lv_iload_n hx hb d_X_shortenOver_56 rfl (lv_at hl 1 rfl) ?_
          obtain ⟨j6, ej6, h⟩ := bnd h
          refine q_iald (L := LX) (kc := 2) (ki := j5) hx hb hK hW (okX2 (aix_lt ej5)) rfl ej6 d_X_shortenOver_57 ?_
          refine lv_iload_n hx hb d_X_shortenOver_58 rfl (lv_at hl 3 rfl) ?_
          refine lv_iadd hx hb d_X_shortenOver_59 ?_
          refine lv_aload_n hx hb d_X_shortenOver_60 rfl (lv_at hl 0 rfl) ?_
          refine q_get (L := LX) (kc := 0) (ki := 0) (C := "DeficitNet") (T := T_X) (N := 10) (ci := 0) (v := .ref (ad LX b 1 0)) hx hb hts in_X hown hK hW okX0 rfl rfl 0 (by decide) t_221 rfl d_X_shortenOver_61 ?_
          refine lv_iload_n hx hb d_X_shortenOver_64 rfl (lv_at hl 2 rfl) ?_
          obtain ⟨j7, ej7, h⟩ := bnd h
          refine q_aald (t0 := 3) (ty := (.array .int)) (kd := 2) (L := LX) (kc := 1) (ki := 0) hx hb hK hW okX1 rfl rfl rfl ej7 d_X_shortenOver_65 ?_
          refine lv_iload hx hb d_X_shortenOver_66 (lv_at hl 5 rfl) ?_
          obtain ⟨j8, ej8, h⟩ := bnd h
          refine q_iald (L := LX) (kc := 2) (ki := j7) hx hb hK hW (okX2 (aix_lt ej7)) rfl ej8 d_X_shortenOver_68 ?_
          refine lv_iadd hx hb d_X_shortenOver_69 ?_
          refine lv_topi (fun v9 ev9 => ?_)
          have h := stV_n h ev9
          refine lv_istore hx hb d_X_shortenOver_70 hl (by decide) rfl (fun ls hl => ?_)
          have hl : lv_has ls 7 [(6, .int v9), (0, .ref (ad LX b 0 0)), (1, .int x1), (2, .int x2), (3, .int x3), (4, .int x4), (5, .int x5)] := hl
          refine lv_aload_n hx hb d_X_shortenOver_72 rfl (lv_at hl 1 rfl) ?_
          refine q_get (L := LX) (kc := 0) (ki := 0) (C := "DeficitNet") (T := T_X) (N := 10) (ci := 0) (v := .ref (ad LX b 1 0)) hx hb hts in_X hown hK hW okX0 rfl rfl 0 (by decide) t_221 rfl d_X_shortenOver_73 ?_
          refine lv_iload hx hb d_X_shortenOver_76 (lv_at hl 5 rfl) ?_
          obtain ⟨j10, ej10, h⟩ := bnd h
          refine q_aald (t0 := 3) (ty := (.array .int)) (kd := 2) (L := LX) (kc := 1) (ki := 0) hx hb hK hW okX1 rfl rfl rfl ej10 d_X_shortenOver_78 ?_
          refine lv_iload hx hb d_X_shortenOver_79 (lv_at hl 6 rfl) ?_
          obtain ⟨j11, ej11, h⟩ := bnd h
          refine q_iald (L := LX) (kc := 2) (ki := j10) hx hb hK hW (okX2 (aix_lt ej10)) rfl ej11 d_X_shortenOver_81 ?_
          refine lv_iconst (v := (-1 : Int32)) hx hb d_X_shortenOver_82 (by decide) ?_
          refine lv_icmp_eq (tgt := 101) hx hb d_X_shortenOver_83 (by decide) (fun hc => ?_) (fun hc => ?_)
          · have h := ite_t h hc
            refine lv_aload_n hx hb d_X_shortenOver_101 rfl (lv_at hl 1 rfl) ?_
            refine q_get (L := LX) (kc := 0) (ki := 0) (C := "DeficitNet") (T := T_X) (N := 10) (ci := 0) (v := .ref (ad LX b 1 0)) hx hb hts in_X hown hK hW okX0 rfl rfl 0 (by decide) t_221 rfl d_X_shortenOver_102 ?_
            refine lv_iload hx hb d_X_shortenOver_105 (lv_at hl 5 rfl) ?_
            obtain ⟨j12, ej12, h⟩ := bnd h
            refine q_aald (t0 := 3) (ty := (.array .int)) (kd := 2) (L := LX) (kc := 1) (ki := 0) hx hb hK hW okX1 rfl rfl rfl ej12 d_X_shortenOver_107 ?_
            refine lv_iload hx hb d_X_shortenOver_108 (lv_at hl 6 rfl) ?_
            refine lv_iload hx hb d_X_shortenOver_110 (lv_at hl 0 rfl) ?_
            obtain ⟨j13, ej13, h⟩ := bnd h
            refine q_iast (L := LX) (kc := 2) (ki := j12) hx hb hK hW hS (okX2 (aix_lt ej12)) (fun _ => rfl) ej13 d_X_shortenOver_112 (fun H locs z14 ez14 hW hS => ?_)
            have h := stM_n h ez14
            refine lv_iinc (k := 6) (v := (x5 + (1 : Int32))) hx hb d_X_shortenOver_113 hl rfl rfl (by decide) rfl (fun ls hl => ?_)
            have hl : lv_has ls 7 [(5, .int (x5 + (1 : Int32))), (6, .int v9), (0, .ref (ad LX b 0 0)), (1, .int x1), (2, .int x2), (3, .int x3), (4, .int x4)] := hl
            refine lv_goto (tgt := 13) hx hb d_X_shortenOver_116 (by decide) ?_
            exact ih x1 x2 x3 x4 (x5 + (1 : Int32)) z14 ls H locs  hW hS (lv_sub hl [2, 3, 4, 5, 6, 0] rfl) h
          · have h := ite_f h hc
            refine lv_iload hx hb d_X_shortenOver_86 (lv_at hl 0 rfl) ?_
            refine lv_aload_n hx hb d_X_shortenOver_88 rfl (lv_at hl 1 rfl) ?_
            refine q_get (L := LX) (kc := 0) (ki := 0) (C := "DeficitNet") (T := T_X) (N := 10) (ci := 0) (v := .ref (ad LX b 1 0)) hx hb hts in_X hown hK hW okX0 rfl rfl 0 (by decide) t_221 rfl d_X_shortenOver_89 ?_
            refine lv_iload hx hb d_X_shortenOver_92 (lv_at hl 5 rfl) ?_
            obtain ⟨j15, ej15, h⟩ := bnd h
            refine q_aald (t0 := 3) (ty := (.array .int)) (kd := 2) (L := LX) (kc := 1) (ki := 0) hx hb hK hW okX1 rfl rfl rfl ej15 d_X_shortenOver_94 ?_
            refine lv_iload hx hb d_X_shortenOver_95 (lv_at hl 6 rfl) ?_
            obtain ⟨j16, ej16, h⟩ := bnd h
            refine q_iald (L := LX) (kc := 2) (ki := j15) hx hb hK hW (okX2 (aix_lt ej15)) rfl ej16 d_X_shortenOver_97 ?_
            refine lv_icmp_ge (tgt := 113) hx hb d_X_shortenOver_98 (by decide) (fun hc => ?_) (fun hc => ?_)
            · have h := ite_t h hc
              refine lv_iinc (k := 6) (v := (x5 + (1 : Int32))) hx hb d_X_shortenOver_113 hl rfl rfl (by decide) rfl (fun ls hl => ?_)
              have hl : lv_has ls 7 [(5, .int (x5 + (1 : Int32))), (6, .int v9), (0, .ref (ad LX b 0 0)), (1, .int x1), (2, .int x2), (3, .int x3), (4, .int x4)] := hl
              refine lv_goto (tgt := 13) hx hb d_X_shortenOver_116 (by decide) ?_
              exact ih x1 x2 x3 x4 (x5 + (1 : Int32)) z ls H locs  hW hS (lv_sub hl [2, 3, 4, 5, 6, 0] rfl) h
            · have h := ite_f h hc
              refine lv_aload_n hx hb d_X_shortenOver_101 rfl (lv_at hl 1 rfl) ?_
              refine q_get (L := LX) (kc := 0) (ki := 0) (C := "DeficitNet") (T := T_X) (N := 10) (ci := 0) (v := .ref (ad LX b 1 0)) hx hb hts in_X hown hK hW okX0 rfl rfl 0 (by decide) t_221 rfl d_X_shortenOver_102 ?_
              refine lv_iload hx hb d_X_shortenOver_105 (lv_at hl 5 rfl) ?_
              obtain ⟨j17, ej17, h⟩ := bnd h
              refine q_aald (t0 := 3) (ty := (.array .int)) (kd := 2) (L := LX) (kc := 1) (ki := 0) hx hb hK hW okX1 rfl rfl rfl ej17 d_X_shortenOver_107 ?_
              refine lv_iload hx hb d_X_shortenOver_108 (lv_at hl 6 rfl) ?_
              refine lv_iload hx hb d_X_shortenOver_110 (lv_at hl 0 rfl) ?_
              obtain ⟨j18, ej18, h⟩ := bnd h
              refine q_iast (L := LX) (kc := 2) (ki := j17) hx hb hK hW hS (okX2 (aix_lt ej17)) (fun _ => rfl) ej18 d_X_shortenOver_112 (fun H locs z19 ez19 hW hS => ?_)
              have h := stM_n h ez19
              refine lv_iinc (k := 6) (v := (x5 + (1 : Int32))) hx hb d_X_shortenOver_113 hl rfl rfl (by decide) rfl (fun ls hl => ?_)
              have hl : lv_has ls 7 [(5, .int (x5 + (1 : Int32))), (6, .int v9), (0, .ref (ad LX b 0 0)), (1, .int x1), (2, .int x2), (3, .int x3), (4, .int x4)] := hl
              refine lv_goto (tgt := 13) hx hb d_X_shortenOver_116 (by decide) ?_
              exact ih x1 x2 x3 x4 (x5 + (1 : Int32)) z19 ls H locs  hW hS (lv_sub hl [2, 3, 4, 5, 6, 0] rfl) h
        · have h := ite_t h hc
          refine lv_goto (tgt := 113) hx hb d_X_shortenOver_46 (by decide) ?_
          refine lv_iinc (k := 5) (v := (x5 + (1 : Int32))) hx hb d_X_shortenOver_113 hl rfl rfl (by decide) rfl (fun ls hl => ?_)
          have hl : lv_has ls 7 [(5, .int (x5 + (1 : Int32))), (0, .ref (ad LX b 0 0)), (1, .int x1), (2, .int x2), (3, .int x3), (4, .int x4)] := hl
          refine lv_goto (tgt := 13) hx hb d_X_shortenOver_116 (by decide) ?_
          exact ih x1 x2 x3 x4 (x5 + (1 : Int32)) z ls H locs  hW hS (lv_sub hl [1, 2, 3, 4, 5, 0] rfl) h
set_option maxHeartbeats 4000000 in
set_option maxRecDepth 100000 in
theorem w_X_shortenOver_3 {p : Program} {l : Launch} {e : Env} {s : State} {m : MethodId} {args : Array Value} {below : List Frame} {meth : Method} {c : Code} {G : GG} {b : Nat} {z0 : Mem} (C : Cx y_X_shortenOver b_X_shortenOver 7 none p s m args meth c G) {k125 : Mem → Option Mem} 
    (hk125 : ∀  (z : Mem) (ls : Array Slot) (H : Heap) (locs : List Loc), Wd LX G b z H → va_S (rgL LX b) s.heap H locs → lv_has ls 7 [] → k125  z = some z0 → W p l e rm_X_shortenOver s m args below meth c H locs 0 0 (MQ below (QV LX G b z0) args s 0 0 (rgL LX b)) (F0 m 125 ls [])) :
    ∀ (n : Nat) (x1 : Int32) (x2 : Int32) (x3 : Int32) (x4 : Int32) (z : Mem) (ls : Array Slot) (H : Heap) (locs : List Loc), Wd LX G b z H → va_S (rgL LX b) s.heap H locs → lv_has ls 7 [(0, .ref (ad LX b 0 0)), (1, .int x1), (2, .int x2), (3, .int x3), (4, .int x4)] → dn_X_shortenOver_3 k125 n x1 x2 x3 x4 z = some z0 → W p l e rm_X_shortenOver s m args below meth c H locs 0 0 (MQ below (QV LX G b z0) args s 0 0 (rgL LX b)) (F0 m 3 ls []) := by
  obtain ⟨hx, hb, hml, hr, hown, hts, hlk, hK⟩ := C
  intro n
  induction n with
  | zero =>
    intro x1 x2 x3 x4 z ls H locs  hW hS hl h
    cases h
  | succ n ih =>
    intro x1 x2 x3 x4 z ls H locs  hW hS hl h
    rw [dn_X_shortenOver_3] at h
    refine lv_iload hx hb d_X_shortenOver_3 (lv_at hl 4 rfl) ?_
    refine lv_bipush (v := (8 : Int32)) hx hb d_X_shortenOver_5 (by decide) ?_
    refine lv_icmp_ge (tgt := 125) hx hb d_X_shortenOver_7 (by decide) (fun hc => ?_) (fun hc => ?_)
    · have h := ite_t h hc
      exact hk125  z ls H locs  hW hS (lv_sub hl [] rfl) h
    · have h := ite_f h hc
      refine lv_iconst (v := (0 : Int32)) hx hb d_X_shortenOver_10 (by decide) ?_
      refine lv_istore hx hb d_X_shortenOver_11 hl (by decide) rfl (fun ls hl => ?_)
      have hl : lv_has ls 7 [(5, .int (0 : Int32)), (0, .ref (ad LX b 0 0)), (1, .int x1), (2, .int x2), (3, .int x3), (4, .int x4)] := hl
      refine w_X_shortenOver_13 ⟨hx, hb, hml, hr, hown, hts, hlk, hK⟩ (fun x1 x2 x3 x4 z20 ls H locs  hW hS hl h => ?_) FU x1 x2 x3 x4 (0 : Int32) z ls H locs  hW hS (lv_sub hl [1, 2, 3, 4, 5, 0] rfl) h
      · refine lv_iinc (k := 4) (v := (x4 + (1 : Int32))) hx hb d_X_shortenOver_119 hl rfl rfl (by decide) rfl (fun ls hl => ?_)
        have hl : lv_has ls 7 [(4, .int (x4 + (1 : Int32))), (0, .ref (ad LX b 0 0)), (1, .int x1), (2, .int x2), (3, .int x3)] := hl
        refine lv_goto (tgt := 3) hx hb d_X_shortenOver_122 (by decide) ?_
        exact ih x1 x2 x3 (x4 + (1 : Int32)) z20 ls H locs  hW hS (lv_sub hl [1, 2, 3, 4, 0] rfl) h
set_option maxHeartbeats 4000000 in
set_option maxRecDepth 100000 in
theorem c_X_shortenOver (l : Launch) (G : GG) (b : Nat) (x1 : Int32) (x2 : Int32) (x3 : Int32) (z : Mem) (z0 : Mem) (h : dn_X_shortenOver x1 x2 x3 z = some z0) : MtW l y_X_shortenOver b_X_shortenOver 7 none rm_X_shortenOver LX G b [.ref (ad LX b 0 0), .int x1, .int x2, .int x3] z (QV LX G b z0) := by
  refine mtW_of (by decide) (Nat.le_of_ble_eq_true rfl) ?_
  intro p e s m args below meth c ls H locs C hW hS hl
  obtain ⟨hx, hb, hml, hr, hown, hts, hlk, hK⟩ := C
  have hl : lv_has ls 7 [(0, .ref (ad LX b 0 0)), (1, .int x1), (2, .int x2), (3, .int x3)] := hl
  unfold dn_X_shortenOver at h
  refine lv_iconst (v := (0 : Int32)) hx hb d_X_shortenOver_0 (by decide) ?_
  refine lv_istore hx hb d_X_shortenOver_1 hl (by decide) rfl (fun ls hl => ?_)
  have hl : lv_has ls 7 [(4, .int (0 : Int32)), (0, .ref (ad LX b 0 0)), (1, .int x1), (2, .int x2), (3, .int x3)] := hl
  refine w_X_shortenOver_3 ⟨hx, hb, hml, hr, hown, hts, hlk, hK⟩ (fun z21 ls H locs  hW hS hl h => ?_) FU x1 x2 x3 (0 : Int32) z ls H locs  hW hS (lv_sub hl [1, 2, 3, 4, 0] rfl) h
  · exact q_vret hx hb hr hlk hK hW hS h d_X_shortenOver_125
set_option maxHeartbeats 4000000 in
set_option maxRecDepth 100000 in
theorem c_X_link (l : Launch) (G : GG) (b : Nat) (x1 : Int32) (x2 : Int32) (x3 : Int32) (x4 : Int32) (x5 : Int32) (z : Mem) (r0 : Int32) (z0 : Mem) (h : dn_X_link x1 x2 x3 x4 x5 z = some (r0, z0)) : MtW l y_X_link b_X_link 7 (some .int) rm_X_link LX G b [.ref (ad LX b 0 0), .int x1, .int x2, .int x3, .int x4, .int x5] z (QI LX G b r0 z0) := by
  refine mtW_of (by decide) (Nat.le_of_ble_eq_true rfl) ?_
  intro p e s m args below meth c ls H locs C hW hS hl
  obtain ⟨hx, hb, hml, hr, hown, hts, hlk, hK⟩ := C
  have hl : lv_has ls 7 [(0, .ref (ad LX b 0 0)), (1, .int x1), (2, .int x2), (3, .int x3), (4, .int x4), (5, .int x5)] := hl
  unfold dn_X_link at h
  refine lv_aload_n hx hb d_X_link_0 rfl (lv_at hl 0 rfl) ?_
  refine q_get (L := LX) (kc := 0) (ki := 0) (C := "DeficitNet") (T := T_X) (N := 10) (ci := 0) (v := .int (z.1 0 0 9)) hx hb hts in_X hown hK hW okX0 rfl rfl 9 (by decide) t_230 rfl d_X_link_1 ?_
  refine lv_if_ne (tgt := 35) hx hb d_X_link_4 (by decide) (fun hc => ?_) (fun hc => ?_)
  · have h := ite_f h hc
    refine lv_iconst (v := (-1 : Int32)) hx hb d_X_link_35 (by decide) ?_
    exact q_iret hx hb hr hlk hK hW hS h d_X_link_36
  · have h := ite_t h hc
    refine lv_aload_n hx hb d_X_link_7 rfl (lv_at hl 0 rfl) ?_
    refine q_get (L := LX) (kc := 0) (ki := 0) (C := "DeficitNet") (T := T_X) (N := 10) (ci := 0) (v := .int (z.1 0 0 6)) hx hb hts in_X hown hK hW okX0 rfl rfl 6 (by decide) t_227 rfl d_X_link_8 ?_
    refine lv_bipush (v := (12 : Int32)) hx hb d_X_link_11 (by decide) ?_
    refine lv_icmp_ge (tgt := 35) hx hb d_X_link_13 (by decide) (fun hc => ?_) (fun hc => ?_)
    · have h := ite_t h hc
      refine lv_iconst (v := (-1 : Int32)) hx hb d_X_link_35 (by decide) ?_
      exact q_iret hx hb hr hlk hK hW hS h d_X_link_36
    · have h := ite_f h hc
      refine lv_iload_n hx hb d_X_link_16 rfl (lv_at hl 1 rfl) ?_
      obtain ⟨v1, ev1, h⟩ := bnd h
      refine q_callPi (As := [.int x1]) (rest := []) hx hb hml hown hts hW hS (c_X_isNode l x1 v1 ev1) f_X_isNode t_257 ⟨rfl, rfl⟩ ⟨Nat.le_of_ble_eq_true rfl, Nat.le_of_ble_eq_true rfl⟩ rfl hl.1 rfl (Nat.le_of_ble_eq_true rfl) d_X_link_17 (fun H locs hW hS => ?_)
      refine lv_if_eq (tgt := 35) hx hb d_X_link_20 (by decide) (fun hc => ?_) (fun hc => ?_)
      · have h := ite_t h hc
        refine lv_iconst (v := (-1 : Int32)) hx hb d_X_link_35 (by decide) ?_
        exact q_iret hx hb hr hlk hK hW hS h d_X_link_36
      · have h := ite_f h hc
        refine lv_iload_n hx hb d_X_link_23 rfl (lv_at hl 2 rfl) ?_
        obtain ⟨v2, ev2, h⟩ := bnd h
        refine q_callPi (As := [.int x2]) (rest := []) hx hb hml hown hts hW hS (c_X_isNode l x2 v2 ev2) f_X_isNode t_257 ⟨rfl, rfl⟩ ⟨Nat.le_of_ble_eq_true rfl, Nat.le_of_ble_eq_true rfl⟩ rfl hl.1 rfl (Nat.le_of_ble_eq_true rfl) d_X_link_24 (fun H locs hW hS => ?_)
        refine lv_if_eq (tgt := 35) hx hb d_X_link_27 (by decide) (fun hc => ?_) (fun hc => ?_)
        · have h := ite_t h hc
          refine lv_iconst (v := (-1 : Int32)) hx hb d_X_link_35 (by decide) ?_
          exact q_iret hx hb hr hlk hK hW hS h d_X_link_36
        · have h := ite_f h hc
          refine lv_iload_n hx hb d_X_link_30 rfl (lv_at hl 1 rfl) ?_
          refine lv_iload_n hx hb d_X_link_31 rfl (lv_at hl 2 rfl) ?_
          refine lv_icmp_ne (tgt := 37) hx hb d_X_link_32 (by decide) (fun hc => ?_) (fun hc => ?_)
          · have h := ite_f h hc
            refine lv_iload_n hx hb d_X_link_37 rfl (lv_at hl 3 rfl) ?_
            refine lv_iconst (v := (1 : Int32)) hx hb d_X_link_38 (by decide) ?_
            refine lv_bipush (v := (100 : Int32)) hx hb d_X_link_39 (by decide) ?_
            obtain ⟨v3, ev3, h⟩ := bnd h
            refine q_callPi (As := [.int x3, .int (1 : Int32), .int (100 : Int32)]) (rest := []) hx hb hml hown hts hW hS (c_X_isWithin l x3 (1 : Int32) (100 : Int32) v3 ev3) f_X_isWithin t_260 ⟨rfl, rfl⟩ ⟨Nat.le_of_ble_eq_true rfl, Nat.le_of_ble_eq_true rfl⟩ rfl hl.1 rfl (Nat.le_of_ble_eq_true rfl) d_X_link_41 (fun H locs hW hS => ?_)
            refine lv_if_eq (tgt := 69) hx hb d_X_link_44 (by decide) (fun hc => ?_) (fun hc => ?_)
            · have h := ite_t h hc
              refine lv_iconst (v := (-1 : Int32)) hx hb d_X_link_69 (by decide) ?_
              exact q_iret hx hb hr hlk hK hW hS h d_X_link_70
            · have h := ite_f h hc
              refine lv_iload hx hb d_X_link_47 (lv_at hl 4 rfl) ?_
              refine lv_iconst (v := (1 : Int32)) hx hb d_X_link_49 (by decide) ?_
              refine lv_bipush (v := (16 : Int32)) hx hb d_X_link_50 (by decide) ?_
              obtain ⟨v4, ev4, h⟩ := bnd h
              refine q_callPi (As := [.int x4, .int (1 : Int32), .int (16 : Int32)]) (rest := []) hx hb hml hown hts hW hS (c_X_isWithin l x4 (1 : Int32) (16 : Int32) v4 ev4) f_X_isWithin t_260 ⟨rfl, rfl⟩ ⟨Nat.le_of_ble_eq_true rfl, Nat.le_of_ble_eq_true rfl⟩ rfl hl.1 rfl (Nat.le_of_ble_eq_true rfl) d_X_link_52 (fun H locs hW hS => ?_)
              refine lv_if_eq (tgt := 69) hx hb d_X_link_55 (by decide) (fun hc => ?_) (fun hc => ?_)
              · have h := ite_t h hc
                refine lv_iconst (v := (-1 : Int32)) hx hb d_X_link_69 (by decide) ?_
                exact q_iret hx hb hr hlk hK hW hS h d_X_link_70
              · have h := ite_f h hc
                refine lv_iload hx hb d_X_link_58 (lv_at hl 5 rfl) ?_
                refine lv_iconst (v := (0 : Int32)) hx hb d_X_link_60 (by decide) ?_
                refine lv_bipush (v := (40 : Int32)) hx hb d_X_link_61 (by decide) ?_
                obtain ⟨v5, ev5, h⟩ := bnd h
                refine q_callPi (As := [.int x5, .int (0 : Int32), .int (40 : Int32)]) (rest := []) hx hb hml hown hts hW hS (c_X_isWithin l x5 (0 : Int32) (40 : Int32) v5 ev5) f_X_isWithin t_260 ⟨rfl, rfl⟩ ⟨Nat.le_of_ble_eq_true rfl, Nat.le_of_ble_eq_true rfl⟩ rfl hl.1 rfl (Nat.le_of_ble_eq_true rfl) d_X_link_63 (fun H locs hW hS => ?_)
                refine lv_if_ne (tgt := 71) hx hb d_X_link_66 (by decide) (fun hc => ?_) (fun hc => ?_)
                · have h := ite_f h hc
                  refine lv_aload_n hx hb d_X_link_71 rfl (lv_at hl 0 rfl) ?_
                  refine q_get (L := LX) (kc := 0) (ki := 0) (C := "DeficitNet") (T := T_X) (N := 10) (ci := 0) (v := .int (z.1 0 0 6)) hx hb hts in_X hown hK hW okX0 rfl rfl 6 (by decide) t_227 rfl d_X_link_72 ?_
                  refine lv_istore hx hb d_X_link_75 hl (by decide) rfl (fun ls hl => ?_)
                  have hl : lv_has ls 7 [(6, .int (z.1 0 0 6)), (0, .ref (ad LX b 0 0)), (1, .int x1), (2, .int x2), (3, .int x3), (4, .int x4), (5, .int x5)] := hl
                  refine lv_aload_n hx hb d_X_link_77 rfl (lv_at hl 1 rfl) ?_
                  refine q_get (L := LX) (kc := 0) (ki := 0) (C := "DeficitNet") (T := T_X) (N := 10) (ci := 0) (v := .ref (ad LX b 3 0)) hx hb hts in_X hown hK hW okX0 rfl rfl 1 (by decide) t_222 rfl d_X_link_78 ?_
                  refine lv_iconst (v := (2 : Int32)) hx hb d_X_link_81 (by decide) ?_
                  refine lv_iload hx hb d_X_link_82 (lv_at hl 0 rfl) ?_
                  refine lv_imul hx hb d_X_link_84 ?_
                  obtain ⟨j6, ej6, h⟩ := bnd h
                  refine q_aald (t0 := 4) (ty := (.object "DeficitNet$Port")) (kd := 4) (L := LX) (kc := 3) (ki := 0) hx hb hK hW okX3 rfl rfl rfl ej6 d_X_link_85 ?_
                  refine lv_iload_n hx hb d_X_link_86 rfl (lv_at hl 2 rfl) ?_
                  refine lv_iload_n hx hb d_X_link_87 rfl (lv_at hl 3 rfl) ?_
                  refine lv_iload_n hx hb d_X_link_88 rfl (lv_at hl 4 rfl) ?_
                  refine lv_iload hx hb d_X_link_89 (lv_at hl 5 rfl) ?_
                  refine lv_iload hx hb d_X_link_91 (lv_at hl 6 rfl) ?_
                  obtain ⟨z7, ez7, h⟩ := bnd h
                  refine q_callVv (C := "DeficitNet$Port") (As := [.int x1, .int x2, .int x3, .int x4, .int x5]) (rest := []) hx hb hml hown hts hK hW hS (c_P_lay l G b j6 x1 x2 x3 x4 x5 z z7 (aix_lt ej6) ez7) f_P_lay t_263 ⟨rfl, rfl⟩ ⟨Nat.le_of_ble_eq_true rfl, Nat.le_of_ble_eq_true rfl⟩ (q_recv (L := LX) (kc := 4) (ki := j6) hK hW (okX4 (aix_lt ej6)) rfl rfl) rfl hl.1 rfl (Nat.le_of_ble_eq_true rfl) d_X_link_93 (fun H locs hW hS => ?_)
                  refine lv_aload_n hx hb d_X_link_96 rfl (lv_at hl 1 rfl) ?_
                  refine q_get (L := LX) (kc := 0) (ki := 0) (C := "DeficitNet") (T := T_X) (N := 10) (ci := 0) (v := .ref (ad LX b 3 0)) hx hb hts in_X hown hK hW okX0 rfl rfl 1 (by decide) t_222 rfl d_X_link_97 ?_
                  refine lv_iconst (v := (2 : Int32)) hx hb d_X_link_100 (by decide) ?_
                  refine lv_iload hx hb d_X_link_101 (lv_at hl 0 rfl) ?_
                  refine lv_imul hx hb d_X_link_103 ?_
                  refine lv_iconst (v := (1 : Int32)) hx hb d_X_link_104 (by decide) ?_
                  refine lv_iadd hx hb d_X_link_105 ?_
                  obtain ⟨j8, ej8, h⟩ := bnd h
                  refine q_aald (t0 := 4) (ty := (.object "DeficitNet$Port")) (kd := 4) (L := LX) (kc := 3) (ki := 0) hx hb hK hW okX3 rfl rfl rfl ej8 d_X_link_106 ?_
                  refine lv_iload_n hx hb d_X_link_107 rfl (lv_at hl 3 rfl) ?_
                  refine lv_iload_n hx hb d_X_link_108 rfl (lv_at hl 2 rfl) ?_
                  refine lv_iload_n hx hb d_X_link_109 rfl (lv_at hl 4 rfl) ?_
                  refine lv_iload hx hb d_X_link_110 (lv_at hl 5 rfl) ?_
                  refine lv_iload hx hb d_X_link_112 (lv_at hl 6 rfl) ?_
                  obtain ⟨z9, ez9, h⟩ := bnd h
                  refine q_callVv (C := "DeficitNet$Port") (As := [.int x2, .int x1, .int x3, .int x4, .int x5]) (rest := []) hx hb hml hown hts hK hW hS (c_P_lay l G b j8 x2 x1 x3 x4 x5 z7 z9 (aix_lt ej8) ez9) f_P_lay t_263 ⟨rfl, rfl⟩ ⟨Nat.le_of_ble_eq_true rfl, Nat.le_of_ble_eq_true rfl⟩ (q_recv (L := LX) (kc := 4) (ki := j8) hK hW (okX4 (aix_lt ej8)) rfl rfl) rfl hl.1 rfl (Nat.le_of_ble_eq_true rfl) d_X_link_114 (fun H locs hW hS => ?_)
                  refine lv_aload_n hx hb d_X_link_117 rfl (lv_at hl 1 rfl) ?_
                  refine lv_dup hx hb d_X_link_118 rfl ?_
                  refine q_get (L := LX) (kc := 0) (ki := 0) (C := "DeficitNet") (T := T_X) (N := 10) (ci := 0) (v := .int (z9.1 0 0 6)) hx hb hts in_X hown hK hW okX0 rfl rfl 6 (by decide) t_227 rfl d_X_link_119 ?_
                  refine lv_iconst (v := (1 : Int32)) hx hb d_X_link_122 (by decide) ?_
                  refine lv_iadd hx hb d_X_link_123 ?_
                  refine q_put (L := LX) (kc := 0) (ki := 0) (C := "DeficitNet") (T := T_X) (N := 10) (ci := 0) hx hb hts in_X ty_X tyok_X nm_X hown hK hW hS okX0 rfl rfl 6 (by decide) t_227 rfl rfl rfl (Nat.le_of_ble_eq_true rfl) rfl d_X_link_124 (fun H locs z10 ez10 hW hS => ?_)
                  have h := stM_n h ez10
                  refine lv_aload_n hx hb d_X_link_127 rfl (lv_at hl 1 rfl) ?_
                  refine lv_iload_n hx hb d_X_link_128 rfl (lv_at hl 2 rfl) ?_
                  refine lv_iload_n hx hb d_X_link_129 rfl (lv_at hl 3 rfl) ?_
                  refine lv_iload_n hx hb d_X_link_130 rfl (lv_at hl 4 rfl) ?_
                  obtain ⟨z11, ez11, h⟩ := bnd h
                  refine q_callVv (C := "DeficitNet") (As := [.int x1, .int x2, .int x3]) (rest := []) hx hb hml hown hts hK hW hS (c_X_shortenOver l G b x1 x2 x3 z10 z11 ez11) f_X_shortenOver t_268 ⟨rfl, rfl⟩ ⟨Nat.le_of_ble_eq_true rfl, Nat.le_of_ble_eq_true rfl⟩ (q_recv (L := LX) (kc := 0) (ki := 0) hK hW okX0 rfl rfl) rfl hl.1 rfl (Nat.le_of_ble_eq_true rfl) d_X_link_131 (fun H locs hW hS => ?_)
                  refine lv_aload_n hx hb d_X_link_134 rfl (lv_at hl 1 rfl) ?_
                  refine lv_iload_n hx hb d_X_link_135 rfl (lv_at hl 3 rfl) ?_
                  refine lv_iload_n hx hb d_X_link_136 rfl (lv_at hl 2 rfl) ?_
                  refine lv_iload_n hx hb d_X_link_137 rfl (lv_at hl 4 rfl) ?_
                  obtain ⟨z12, ez12, h⟩ := bnd h
                  refine q_callVv (C := "DeficitNet") (As := [.int x2, .int x1, .int x3]) (rest := []) hx hb hml hown hts hK hW hS (c_X_shortenOver l G b x2 x1 x3 z11 z12 ez12) f_X_shortenOver t_268 ⟨rfl, rfl⟩ ⟨Nat.le_of_ble_eq_true rfl, Nat.le_of_ble_eq_true rfl⟩ (q_recv (L := LX) (kc := 0) (ki := 0) hK hW okX0 rfl rfl) rfl hl.1 rfl (Nat.le_of_ble_eq_true rfl) d_X_link_138 (fun H locs hW hS => ?_)
                  refine lv_iload hx hb d_X_link_141 (lv_at hl 0 rfl) ?_
                  exact q_iret hx hb hr hlk hK hW hS h d_X_link_143
                · have h := ite_t h hc
                  refine lv_iconst (v := (-1 : Int32)) hx hb d_X_link_69 (by decide) ?_
                  exact q_iret hx hb hr hlk hK hW hS h d_X_link_70
          · have h := ite_t h hc
            refine lv_iconst (v := (-1 : Int32)) hx hb d_X_link_35 (by decide) ?_
            exact q_iret hx hb hr hlk hK hW hS h d_X_link_36
set_option maxHeartbeats 4000000 in
set_option maxRecDepth 100000 in
theorem c_X_isPort (l : Launch) (G : GG) (b : Nat) (x1 : Int32) (z : Mem) (r0 : Int32) (z0 : Mem) (h : dn_X_isPort x1 z = some (r0, z0)) : MtW l y_X_isPort b_X_isPort 2 (some .boolean) rm_X_isPort LX G b [.ref (ad LX b 0 0), .int x1] z (QI LX G b r0 z0) := by
  refine mtW_of (by decide) (Nat.le_of_ble_eq_true rfl) ?_
  intro p e s m args below meth c ls H locs C hW hS hl
  obtain ⟨hx, hb, hml, hr, hown, hts, hlk, hK⟩ := C
  have hl : lv_has ls 2 [(0, .ref (ad LX b 0 0)), (1, .int x1)] := hl
  unfold dn_X_isPort at h
  refine lv_iload_n hx hb d_X_isPort_0 rfl (lv_at hl 1 rfl) ?_
  refine lv_iconst (v := (0 : Int32)) hx hb d_X_isPort_1 (by decide) ?_
  refine lv_iconst (v := (2 : Int32)) hx hb d_X_isPort_2 (by decide) ?_
  refine lv_aload_n hx hb d_X_isPort_3 rfl (lv_at hl 0 rfl) ?_
  refine q_get (L := LX) (kc := 0) (ki := 0) (C := "DeficitNet") (T := T_X) (N := 10) (ci := 0) (v := .int (z.1 0 0 6)) hx hb hts in_X hown hK hW okX0 rfl rfl 6 (by decide) t_227 rfl d_X_isPort_4 ?_
  refine lv_imul hx hb d_X_isPort_7 ?_
  refine lv_iconst (v := (1 : Int32)) hx hb d_X_isPort_8 (by decide) ?_
  refine lv_isub hx hb d_X_isPort_9 ?_
  obtain ⟨v1, ev1, h⟩ := bnd h
  refine q_callPi (As := [.int x1, .int (0 : Int32), .int (((2 : Int32) * (z.1 0 0 6)) - (1 : Int32))]) (rest := []) hx hb hml hown hts hW hS (c_X_isWithin l x1 (0 : Int32) (((2 : Int32) * (z.1 0 0 6)) - (1 : Int32)) v1 ev1) f_X_isWithin t_260 ⟨rfl, rfl⟩ ⟨Nat.le_of_ble_eq_true rfl, Nat.le_of_ble_eq_true rfl⟩ rfl hl.1 rfl (Nat.le_of_ble_eq_true rfl) d_X_isPort_10 (fun H locs hW hS => ?_)
  obtain ⟨_, u2, h⟩ := bnd h
  exact q_zret hx hb hr hlk hK hW hS (bz_some u2) h d_X_isPort_13
set_option maxHeartbeats 4000000 in
set_option maxRecDepth 100000 in
theorem c_X_shape (l : Launch) (G : GG) (b : Nat) (x1 : Int32) (x2 : Int32) (x3 : Int32) (z : Mem) (r0 : Int32) (z0 : Mem) (h : dn_X_shape x1 x2 x3 z = some (r0, z0)) : MtW l y_X_shape b_X_shape 4 (some .boolean) rm_X_shape LX G b [.ref (ad LX b 0 0), .int x1, .int x2, .int x3] z (QI LX G b r0 z0) := by
  refine mtW_of (by decide) (Nat.le_of_ble_eq_true rfl) ?_
  intro p e s m args below meth c ls H locs C hW hS hl
  obtain ⟨hx, hb, hml, hr, hown, hts, hlk, hK⟩ := C
  have hl : lv_has ls 4 [(0, .ref (ad LX b 0 0)), (1, .int x1), (2, .int x2), (3, .int x3)] := hl
  unfold dn_X_shape at h
  refine lv_aload_n hx hb d_X_shape_0 rfl (lv_at hl 0 rfl) ?_
  refine q_get (L := LX) (kc := 0) (ki := 0) (C := "DeficitNet") (T := T_X) (N := 10) (ci := 0) (v := .int (z.1 0 0 9)) hx hb hts in_X hown hK hW okX0 rfl rfl 9 (by decide) t_230 rfl d_X_shape_1 ?_
  refine lv_if_ne (tgt := 35) hx hb d_X_shape_4 (by decide) (fun hc => ?_) (fun hc => ?_)
  · have h := ite_f h hc
    refine lv_iconst (v := (0 : Int32)) hx hb d_X_shape_35 (by decide) ?_
    obtain ⟨_, u1, h⟩ := bnd h
    exact q_zret hx hb hr hlk hK hW hS (bz_some u1) h d_X_shape_36
  · have h := ite_t h hc
    refine lv_aload_n hx hb d_X_shape_7 rfl (lv_at hl 0 rfl) ?_
    refine lv_iload_n hx hb d_X_shape_8 rfl (lv_at hl 1 rfl) ?_
    obtain ⟨⟨v2, z2⟩, er2, h⟩ := bnd h
    refine q_callVi (C := "DeficitNet") (As := [.int x1]) (rest := []) hx hb hml hown hts hK hW hS (c_X_isPort l G b x1 z v2 z2 er2) f_X_isPort t_276 ⟨rfl, rfl⟩ ⟨Nat.le_of_ble_eq_true rfl, Nat.le_of_ble_eq_true rfl⟩ (q_recv (L := LX) (kc := 0) (ki := 0) hK hW okX0 rfl rfl) rfl hl.1 rfl (Nat.le_of_ble_eq_true rfl) d_X_shape_9 (fun H locs hW hS => ?_)
    refine lv_if_eq (tgt := 35) hx hb d_X_shape_12 (by decide) (fun hc => ?_) (fun hc => ?_)
    · have h := ite_t h hc
      refine lv_iconst (v := (0 : Int32)) hx hb d_X_shape_35 (by decide) ?_
      obtain ⟨_, u3, h⟩ := bnd h
      exact q_zret hx hb hr hlk hK hW hS (bz_some u3) h d_X_shape_36
    · have h := ite_f h hc
      refine lv_iload_n hx hb d_X_shape_15 rfl (lv_at hl 2 rfl) ?_
      refine lv_iconst (v := (1 : Int32)) hx hb d_X_shape_16 (by decide) ?_
      refine lv_bipush (v := (16 : Int32)) hx hb d_X_shape_17 (by decide) ?_
      obtain ⟨v4, ev4, h⟩ := bnd h
      refine q_callPi (As := [.int x2, .int (1 : Int32), .int (16 : Int32)]) (rest := []) hx hb hml hown hts hW hS (c_X_isWithin l x2 (1 : Int32) (16 : Int32) v4 ev4) f_X_isWithin t_260 ⟨rfl, rfl⟩ ⟨Nat.le_of_ble_eq_true rfl, Nat.le_of_ble_eq_true rfl⟩ rfl hl.1 rfl (Nat.le_of_ble_eq_true rfl) d_X_shape_19 (fun H locs hW hS => ?_)
      refine lv_if_eq (tgt := 35) hx hb d_X_shape_22 (by decide) (fun hc => ?_) (fun hc => ?_)
      · have h := ite_t h hc
        refine lv_iconst (v := (0 : Int32)) hx hb d_X_shape_35 (by decide) ?_
        obtain ⟨_, u5, h⟩ := bnd h
        exact q_zret hx hb hr hlk hK hW hS (bz_some u5) h d_X_shape_36
      · have h := ite_f h hc
        refine lv_iload_n hx hb d_X_shape_25 rfl (lv_at hl 3 rfl) ?_
        refine lv_iconst (v := (1 : Int32)) hx hb d_X_shape_26 (by decide) ?_
        refine lv_bipush (v := (8 : Int32)) hx hb d_X_shape_27 (by decide) ?_
        obtain ⟨v6, ev6, h⟩ := bnd h
        refine q_callPi (As := [.int x3, .int (1 : Int32), .int (8 : Int32)]) (rest := []) hx hb hml hown hts hW hS (c_X_isWithin l x3 (1 : Int32) (8 : Int32) v6 ev6) f_X_isWithin t_260 ⟨rfl, rfl⟩ ⟨Nat.le_of_ble_eq_true rfl, Nat.le_of_ble_eq_true rfl⟩ rfl hl.1 rfl (Nat.le_of_ble_eq_true rfl) d_X_shape_29 (fun H locs hW hS => ?_)
        refine lv_if_ne (tgt := 37) hx hb d_X_shape_32 (by decide) (fun hc => ?_) (fun hc => ?_)
        · have h := ite_f h hc
          refine lv_aload_n hx hb d_X_shape_37 rfl (lv_at hl 0 rfl) ?_
          refine q_get (L := LX) (kc := 0) (ki := 0) (C := "DeficitNet") (T := T_X) (N := 10) (ci := 0) (v := .ref (ad LX b 3 0)) hx hb hts in_X hown hK hW okX0 rfl rfl 1 (by decide) t_222 rfl d_X_shape_38 ?_
          refine lv_iload_n hx hb d_X_shape_41 rfl (lv_at hl 1 rfl) ?_
          obtain ⟨j7, ej7, h⟩ := bnd h
          refine q_aald (t0 := 4) (ty := (.object "DeficitNet$Port")) (kd := 4) (L := LX) (kc := 3) (ki := 0) hx hb hK hW okX3 rfl rfl rfl ej7 d_X_shape_42 ?_
          refine lv_iload_n hx hb d_X_shape_43 rfl (lv_at hl 2 rfl) ?_
          refine q_put (L := LX) (kc := 4) (ki := j7) (C := "DeficitNet$Port") (T := T_P) (N := 14) (ci := 4) hx hb hts in_P ty_P tyok_P nm_P hown hK hW hS (okX4 (aix_lt ej7)) rfl rfl 5 (by decide) t_38 rfl rfl rfl (Nat.le_of_ble_eq_true rfl) rfl d_X_shape_44 (fun H locs z8 ez8 hW hS => ?_)
          have h := stM_n h ez8
          refine lv_aload_n hx hb d_X_shape_47 rfl (lv_at hl 0 rfl) ?_
          refine q_get (L := LX) (kc := 0) (ki := 0) (C := "DeficitNet") (T := T_X) (N := 10) (ci := 0) (v := .ref (ad LX b 3 0)) hx hb hts in_X hown hK hW okX0 rfl rfl 1 (by decide) t_222 rfl d_X_shape_48 ?_
          refine lv_iload_n hx hb d_X_shape_51 rfl (lv_at hl 1 rfl) ?_
          obtain ⟨j9, ej9, h⟩ := bnd h
          refine q_aald (t0 := 4) (ty := (.object "DeficitNet$Port")) (kd := 4) (L := LX) (kc := 3) (ki := 0) hx hb hK hW okX3 rfl rfl rfl ej9 d_X_shape_52 ?_
          refine lv_iload_n hx hb d_X_shape_53 rfl (lv_at hl 3 rfl) ?_
          refine q_put (L := LX) (kc := 4) (ki := j9) (C := "DeficitNet$Port") (T := T_P) (N := 14) (ci := 4) hx hb hts in_P ty_P tyok_P nm_P hown hK hW hS (okX4 (aix_lt ej9)) rfl rfl 6 (by decide) t_40 rfl rfl rfl (Nat.le_of_ble_eq_true rfl) rfl d_X_shape_54 (fun H locs z10 ez10 hW hS => ?_)
          have h := stM_n h ez10
          refine lv_iconst (v := (1 : Int32)) hx hb d_X_shape_57 (by decide) ?_
          obtain ⟨_, u11, h⟩ := bnd h
          exact q_zret hx hb hr hlk hK hW hS (bz_some u11) h d_X_shape_58
        · have h := ite_t h hc
          refine lv_iconst (v := (0 : Int32)) hx hb d_X_shape_35 (by decide) ?_
          obtain ⟨_, u12, h⟩ := bnd h
          exact q_zret hx hb hr hlk hK hW hS (bz_some u12) h d_X_shape_36
set_option maxHeartbeats 4000000 in
set_option maxRecDepth 100000 in
theorem c_F_found (l : Launch) (G : GG) (b : Nat) (x0 : Nat) (x1 : Int32) (x2 : Int32) (x3 : Int32) (x4 : Int32) (z : Mem) (z0 : Mem) (qx0 : x0 < 6) (h : dn_F_found x0 x1 x2 x3 x4 z = some z0) : MtW l y_F_found b_F_found 5 none rm_F_found LX G b [.ref (ad LX b 9 x0), .int x1, .int x2, .int x3, .int x4] z (QV LX G b z0) := by
  refine mtW_of (by decide) (Nat.le_of_ble_eq_true rfl) ?_
  intro p e s m args below meth c ls H locs C hW hS hl
  obtain ⟨hx, hb, hml, hr, hown, hts, hlk, hK⟩ := C
  have hl : lv_has ls 5 [(0, .ref (ad LX b 9 x0)), (1, .int x1), (2, .int x2), (3, .int x3), (4, .int x4)] := hl
  unfold dn_F_found at h
  refine lv_aload_n hx hb d_F_found_0 rfl (lv_at hl 0 rfl) ?_
  refine lv_iload_n hx hb d_F_found_1 rfl (lv_at hl 1 rfl) ?_
  refine q_put (L := LX) (kc := 9) (ki := x0) (C := "DeficitNet$Flow") (T := T_F) (N := 14) (ci := 2) hx hb hts in_F ty_F tyok_F nm_F hown hK hW hS (okX9 qx0) rfl rfl 0 (by decide) t_90 rfl rfl rfl (Nat.le_of_ble_eq_true rfl) rfl d_F_found_2 (fun H locs z1 ez1 hW hS => ?_)
  have h := stM_n h ez1
  refine lv_aload_n hx hb d_F_found_5 rfl (lv_at hl 0 rfl) ?_
  refine lv_iload_n hx hb d_F_found_6 rfl (lv_at hl 2 rfl) ?_
  refine q_put (L := LX) (kc := 9) (ki := x0) (C := "DeficitNet$Flow") (T := T_F) (N := 14) (ci := 2) hx hb hts in_F ty_F tyok_F nm_F hown hK hW hS (okX9 qx0) rfl rfl 1 (by decide) t_93 rfl rfl rfl (Nat.le_of_ble_eq_true rfl) rfl d_F_found_7 (fun H locs z2 ez2 hW hS => ?_)
  have h := stM_n h ez2
  refine lv_aload_n hx hb d_F_found_10 rfl (lv_at hl 0 rfl) ?_
  refine lv_iload_n hx hb d_F_found_11 rfl (lv_at hl 3 rfl) ?_
  refine q_put (L := LX) (kc := 9) (ki := x0) (C := "DeficitNet$Flow") (T := T_F) (N := 14) (ci := 2) hx hb hts in_F ty_F tyok_F nm_F hown hK hW hS (okX9 qx0) rfl rfl 2 (by decide) t_96 rfl rfl rfl (Nat.le_of_ble_eq_true rfl) rfl d_F_found_12 (fun H locs z3 ez3 hW hS => ?_)
  have h := stM_n h ez3
  refine lv_aload_n hx hb d_F_found_15 rfl (lv_at hl 0 rfl) ?_
  refine lv_iload hx hb d_F_found_16 (lv_at hl 4 rfl) ?_
  refine q_put (L := LX) (kc := 9) (ki := x0) (C := "DeficitNet$Flow") (T := T_F) (N := 14) (ci := 2) hx hb hts in_F ty_F tyok_F nm_F hown hK hW hS (okX9 qx0) rfl rfl 3 (by decide) t_98 rfl rfl rfl (Nat.le_of_ble_eq_true rfl) rfl d_F_found_18 (fun H locs z4 ez4 hW hS => ?_)
  have h := stM_n h ez4
  refine lv_aload_n hx hb d_F_found_21 rfl (lv_at hl 0 rfl) ?_
  refine lv_iconst (v := (4 : Int32)) hx hb d_F_found_22 (by decide) ?_
  refine q_put (L := LX) (kc := 9) (ki := x0) (C := "DeficitNet$Flow") (T := T_F) (N := 14) (ci := 2) hx hb hts in_F ty_F tyok_F nm_F hown hK hW hS (okX9 qx0) rfl rfl 4 (by decide) t_100 rfl rfl rfl (Nat.le_of_ble_eq_true rfl) rfl d_F_found_23 (fun H locs z5 ez5 hW hS => ?_)
  have h := stM_n h ez5
  refine lv_aload_n hx hb d_F_found_26 rfl (lv_at hl 0 rfl) ?_
  refine lv_bipush (v := (100 : Int32)) hx hb d_F_found_27 (by decide) ?_
  refine q_put (L := LX) (kc := 9) (ki := x0) (C := "DeficitNet$Flow") (T := T_F) (N := 14) (ci := 2) hx hb hts in_F ty_F tyok_F nm_F hown hK hW hS (okX9 qx0) rfl rfl 5 (by decide) t_102 rfl rfl rfl (Nat.le_of_ble_eq_true rfl) rfl d_F_found_29 (fun H locs z6 ez6 hW hS => ?_)
  have h := stM_n h ez6
  refine lv_aload_n hx hb d_F_found_32 rfl (lv_at hl 0 rfl) ?_
  refine lv_iconst (v := (0 : Int32)) hx hb d_F_found_33 (by decide) ?_
  refine q_put (L := LX) (kc := 9) (ki := x0) (C := "DeficitNet$Flow") (T := T_F) (N := 14) (ci := 2) hx hb hts in_F ty_F tyok_F nm_F hown hK hW hS (okX9 qx0) rfl rfl 6 (by decide) t_104 rfl rfl rfl (Nat.le_of_ble_eq_true rfl) rfl d_F_found_34 (fun H locs z7 ez7 hW hS => ?_)
  have h := stM_n h ez7
  refine lv_aload_n hx hb d_F_found_37 rfl (lv_at hl 0 rfl) ?_
  refine lv_iconst (v := (0 : Int32)) hx hb d_F_found_38 (by decide) ?_
  refine q_put (L := LX) (kc := 9) (ki := x0) (C := "DeficitNet$Flow") (T := T_F) (N := 14) (ci := 2) hx hb hts in_F ty_F tyok_F nm_F hown hK hW hS (okX9 qx0) rfl rfl 7 (by decide) t_106 rfl rfl rfl (Nat.le_of_ble_eq_true rfl) rfl d_F_found_39 (fun H locs z8 ez8 hW hS => ?_)
  have h := stM_n h ez8
  refine lv_aload_n hx hb d_F_found_42 rfl (lv_at hl 0 rfl) ?_
  refine lv_iconst (v := (0 : Int32)) hx hb d_F_found_43 (by decide) ?_
  refine q_put (L := LX) (kc := 9) (ki := x0) (C := "DeficitNet$Flow") (T := T_F) (N := 14) (ci := 2) hx hb hts in_F ty_F tyok_F nm_F hown hK hW hS (okX9 qx0) rfl rfl 8 (by decide) t_108 rfl rfl rfl (Nat.le_of_ble_eq_true rfl) rfl d_F_found_44 (fun H locs z9 ez9 hW hS => ?_)
  have h := stM_n h ez9
  refine lv_aload_n hx hb d_F_found_47 rfl (lv_at hl 0 rfl) ?_
  refine lv_iconst (v := (0 : Int32)) hx hb d_F_found_48 (by decide) ?_
  refine q_put (L := LX) (kc := 9) (ki := x0) (C := "DeficitNet$Flow") (T := T_F) (N := 14) (ci := 2) hx hb hts in_F ty_F tyok_F nm_F hown hK hW hS (okX9 qx0) rfl rfl 9 (by decide) t_110 rfl rfl rfl (Nat.le_of_ble_eq_true rfl) rfl d_F_found_49 (fun H locs z10 ez10 hW hS => ?_)
  have h := stM_n h ez10
  refine lv_aload_n hx hb d_F_found_52 rfl (lv_at hl 0 rfl) ?_
  refine lv_iconst (v := (0 : Int32)) hx hb d_F_found_53 (by decide) ?_
  refine q_put (L := LX) (kc := 9) (ki := x0) (C := "DeficitNet$Flow") (T := T_F) (N := 14) (ci := 2) hx hb hts in_F ty_F tyok_F nm_F hown hK hW hS (okX9 qx0) rfl rfl 10 (by decide) t_112 rfl rfl rfl (Nat.le_of_ble_eq_true rfl) rfl d_F_found_54 (fun H locs z11 ez11 hW hS => ?_)
  have h := stM_n h ez11
  refine lv_aload_n hx hb d_F_found_57 rfl (lv_at hl 0 rfl) ?_
  refine lv_iconst (v := (0 : Int32)) hx hb d_F_found_58 (by decide) ?_
  refine q_put (L := LX) (kc := 9) (ki := x0) (C := "DeficitNet$Flow") (T := T_F) (N := 14) (ci := 2) hx hb hts in_F ty_F tyok_F nm_F hown hK hW hS (okX9 qx0) rfl rfl 11 (by decide) t_114 rfl rfl rfl (Nat.le_of_ble_eq_true rfl) rfl d_F_found_59 (fun H locs z12 ez12 hW hS => ?_)
  have h := stM_n h ez12
  refine lv_aload_n hx hb d_F_found_62 rfl (lv_at hl 0 rfl) ?_
  refine lv_iconst (v := (0 : Int32)) hx hb d_F_found_63 (by decide) ?_
  refine q_put (L := LX) (kc := 9) (ki := x0) (C := "DeficitNet$Flow") (T := T_F) (N := 14) (ci := 2) hx hb hts in_F ty_F tyok_F nm_F hown hK hW hS (okX9 qx0) rfl rfl 12 (by decide) t_116 rfl rfl rfl (Nat.le_of_ble_eq_true rfl) rfl d_F_found_64 (fun H locs z13 ez13 hW hS => ?_)
  have h := stM_n h ez13
  refine lv_aload_n hx hb d_F_found_67 rfl (lv_at hl 0 rfl) ?_
  refine lv_iconst (v := (0 : Int32)) hx hb d_F_found_68 (by decide) ?_
  refine q_put (L := LX) (kc := 9) (ki := x0) (C := "DeficitNet$Flow") (T := T_F) (N := 14) (ci := 2) hx hb hts in_F ty_F tyok_F nm_F hown hK hW hS (okX9 qx0) rfl rfl 13 (by decide) t_118 rfl rfl rfl (Nat.le_of_ble_eq_true rfl) rfl d_F_found_69 (fun H locs z14 ez14 hW hS => ?_)
  have h := stM_n h ez14
  exact q_vret hx hb hr hlk hK hW hS h d_F_found_72
set_option maxHeartbeats 4000000 in
set_option maxRecDepth 100000 in
theorem c_X_flow (l : Launch) (G : GG) (b : Nat) (x1 : Int32) (x2 : Int32) (x3 : Int32) (x4 : Int32) (z : Mem) (r0 : Int32) (z0 : Mem) (h : dn_X_flow x1 x2 x3 x4 z = some (r0, z0)) : MtW l y_X_flow b_X_flow 6 (some .int) rm_X_flow LX G b [.ref (ad LX b 0 0), .int x1, .int x2, .int x3, .int x4] z (QI LX G b r0 z0) := by
  refine mtW_of (by decide) (Nat.le_of_ble_eq_true rfl) ?_
  intro p e s m args below meth c ls H locs C hW hS hl
  obtain ⟨hx, hb, hml, hr, hown, hts, hlk, hK⟩ := C
  have hl : lv_has ls 6 [(0, .ref (ad LX b 0 0)), (1, .int x1), (2, .int x2), (3, .int x3), (4, .int x4)] := hl
  unfold dn_X_flow at h
  refine lv_aload_n hx hb d_X_flow_0 rfl (lv_at hl 0 rfl) ?_
  refine q_get (L := LX) (kc := 0) (ki := 0) (C := "DeficitNet") (T := T_X) (N := 10) (ci := 0) (v := .int (z.1 0 0 9)) hx hb hts in_X hown hK hW okX0 rfl rfl 9 (by decide) t_230 rfl d_X_flow_1 ?_
  refine lv_if_ne (tgt := 35) hx hb d_X_flow_4 (by decide) (fun hc => ?_) (fun hc => ?_)
  · have h := ite_f h hc
    refine lv_iconst (v := (-1 : Int32)) hx hb d_X_flow_35 (by decide) ?_
    exact q_iret hx hb hr hlk hK hW hS h d_X_flow_36
  · have h := ite_t h hc
    refine lv_aload_n hx hb d_X_flow_7 rfl (lv_at hl 0 rfl) ?_
    refine q_get (L := LX) (kc := 0) (ki := 0) (C := "DeficitNet") (T := T_X) (N := 10) (ci := 0) (v := .int (z.1 0 0 7)) hx hb hts in_X hown hK hW okX0 rfl rfl 7 (by decide) t_228 rfl d_X_flow_8 ?_
    refine lv_bipush (v := (6 : Int32)) hx hb d_X_flow_11 (by decide) ?_
    refine lv_icmp_ge (tgt := 35) hx hb d_X_flow_13 (by decide) (fun hc => ?_) (fun hc => ?_)
    · have h := ite_t h hc
      refine lv_iconst (v := (-1 : Int32)) hx hb d_X_flow_35 (by decide) ?_
      exact q_iret hx hb hr hlk hK hW hS h d_X_flow_36
    · have h := ite_f h hc
      refine lv_iload_n hx hb d_X_flow_16 rfl (lv_at hl 1 rfl) ?_
      obtain ⟨v1, ev1, h⟩ := bnd h
      refine q_callPi (As := [.int x1]) (rest := []) hx hb hml hown hts hW hS (c_X_isNode l x1 v1 ev1) f_X_isNode t_257 ⟨rfl, rfl⟩ ⟨Nat.le_of_ble_eq_true rfl, Nat.le_of_ble_eq_true rfl⟩ rfl hl.1 rfl (Nat.le_of_ble_eq_true rfl) d_X_flow_17 (fun H locs hW hS => ?_)
      refine lv_if_eq (tgt := 35) hx hb d_X_flow_20 (by decide) (fun hc => ?_) (fun hc => ?_)
      · have h := ite_t h hc
        refine lv_iconst (v := (-1 : Int32)) hx hb d_X_flow_35 (by decide) ?_
        exact q_iret hx hb hr hlk hK hW hS h d_X_flow_36
      · have h := ite_f h hc
        refine lv_iload_n hx hb d_X_flow_23 rfl (lv_at hl 2 rfl) ?_
        obtain ⟨v2, ev2, h⟩ := bnd h
        refine q_callPi (As := [.int x2]) (rest := []) hx hb hml hown hts hW hS (c_X_isNode l x2 v2 ev2) f_X_isNode t_257 ⟨rfl, rfl⟩ ⟨Nat.le_of_ble_eq_true rfl, Nat.le_of_ble_eq_true rfl⟩ rfl hl.1 rfl (Nat.le_of_ble_eq_true rfl) d_X_flow_24 (fun H locs hW hS => ?_)
        refine lv_if_eq (tgt := 35) hx hb d_X_flow_27 (by decide) (fun hc => ?_) (fun hc => ?_)
        · have h := ite_t h hc
          refine lv_iconst (v := (-1 : Int32)) hx hb d_X_flow_35 (by decide) ?_
          exact q_iret hx hb hr hlk hK hW hS h d_X_flow_36
        · have h := ite_f h hc
          refine lv_iload_n hx hb d_X_flow_30 rfl (lv_at hl 1 rfl) ?_
          refine lv_iload_n hx hb d_X_flow_31 rfl (lv_at hl 2 rfl) ?_
          refine lv_icmp_ne (tgt := 37) hx hb d_X_flow_32 (by decide) (fun hc => ?_) (fun hc => ?_)
          · have h := ite_f h hc
            refine lv_iload_n hx hb d_X_flow_37 rfl (lv_at hl 3 rfl) ?_
            refine lv_iconst (v := (1 : Int32)) hx hb d_X_flow_38 (by decide) ?_
            refine lv_bipush (v := (100 : Int32)) hx hb d_X_flow_39 (by decide) ?_
            obtain ⟨v3, ev3, h⟩ := bnd h
            refine q_callPi (As := [.int x3, .int (1 : Int32), .int (100 : Int32)]) (rest := []) hx hb hml hown hts hW hS (c_X_isWithin l x3 (1 : Int32) (100 : Int32) v3 ev3) f_X_isWithin t_260 ⟨rfl, rfl⟩ ⟨Nat.le_of_ble_eq_true rfl, Nat.le_of_ble_eq_true rfl⟩ rfl hl.1 rfl (Nat.le_of_ble_eq_true rfl) d_X_flow_41 (fun H locs hW hS => ?_)
            refine lv_if_eq (tgt := 58) hx hb d_X_flow_44 (by decide) (fun hc => ?_) (fun hc => ?_)
            · have h := ite_t h hc
              refine lv_iconst (v := (-1 : Int32)) hx hb d_X_flow_58 (by decide) ?_
              exact q_iret hx hb hr hlk hK hW hS h d_X_flow_59
            · have h := ite_f h hc
              refine lv_iload hx hb d_X_flow_47 (lv_at hl 4 rfl) ?_
              refine lv_iconst (v := (1 : Int32)) hx hb d_X_flow_49 (by decide) ?_
              refine lv_bipush (v := (8 : Int32)) hx hb d_X_flow_50 (by decide) ?_
              obtain ⟨v4, ev4, h⟩ := bnd h
              refine q_callPi (As := [.int x4, .int (1 : Int32), .int (8 : Int32)]) (rest := []) hx hb hml hown hts hW hS (c_X_isWithin l x4 (1 : Int32) (8 : Int32) v4 ev4) f_X_isWithin t_260 ⟨rfl, rfl⟩ ⟨Nat.le_of_ble_eq_true rfl, Nat.le_of_ble_eq_true rfl⟩ rfl hl.1 rfl (Nat.le_of_ble_eq_true rfl) d_X_flow_52 (fun H locs hW hS => ?_)
              refine lv_if_ne (tgt := 60) hx hb d_X_flow_55 (by decide) (fun hc => ?_) (fun hc => ?_)
              · have h := ite_f h hc
                refine lv_aload_n hx hb d_X_flow_60 rfl (lv_at hl 0 rfl) ?_
                refine q_get (L := LX) (kc := 0) (ki := 0) (C := "DeficitNet") (T := T_X) (N := 10) (ci := 0) (v := .int (z.1 0 0 7)) hx hb hts in_X hown hK hW okX0 rfl rfl 7 (by decide) t_228 rfl d_X_flow_61 ?_
                refine lv_istore hx hb d_X_flow_64 hl (by decide) rfl (fun ls hl => ?_)
                have hl : lv_has ls 6 [(5, .int (z.1 0 0 7)), (0, .ref (ad LX b 0 0)), (1, .int x1), (2, .int x2), (3, .int x3), (4, .int x4)] := hl
                refine lv_aload_n hx hb d_X_flow_66 rfl (lv_at hl 1 rfl) ?_
                refine q_get (L := LX) (kc := 0) (ki := 0) (C := "DeficitNet") (T := T_X) (N := 10) (ci := 0) (v := .ref (ad LX b 8 0)) hx hb hts in_X hown hK hW okX0 rfl rfl 2 (by decide) t_223 rfl d_X_flow_67 ?_
                refine lv_iload hx hb d_X_flow_70 (lv_at hl 0 rfl) ?_
                obtain ⟨j5, ej5, h⟩ := bnd h
                refine q_aald (t0 := 5) (ty := (.object "DeficitNet$Flow")) (kd := 9) (L := LX) (kc := 8) (ki := 0) hx hb hK hW okX8 rfl rfl rfl ej5 d_X_flow_72 ?_
                refine lv_iload_n hx hb d_X_flow_73 rfl (lv_at hl 2 rfl) ?_
                refine lv_iload_n hx hb d_X_flow_74 rfl (lv_at hl 3 rfl) ?_
                refine lv_iload_n hx hb d_X_flow_75 rfl (lv_at hl 4 rfl) ?_
                refine lv_iload hx hb d_X_flow_76 (lv_at hl 5 rfl) ?_
                obtain ⟨z6, ez6, h⟩ := bnd h
                refine q_callVv (C := "DeficitNet$Flow") (As := [.int x1, .int x2, .int x3, .int x4]) (rest := []) hx hb hml hown hts hK hW hS (c_F_found l G b j5 x1 x2 x3 x4 z z6 (aix_lt ej5) ez6) f_F_found t_284 ⟨rfl, rfl⟩ ⟨Nat.le_of_ble_eq_true rfl, Nat.le_of_ble_eq_true rfl⟩ (q_recv (L := LX) (kc := 9) (ki := j5) hK hW (okX9 (aix_lt ej5)) rfl rfl) rfl hl.1 rfl (Nat.le_of_ble_eq_true rfl) d_X_flow_78 (fun H locs hW hS => ?_)
                refine lv_aload_n hx hb d_X_flow_81 rfl (lv_at hl 1 rfl) ?_
                refine lv_dup hx hb d_X_flow_82 rfl ?_
                refine q_get (L := LX) (kc := 0) (ki := 0) (C := "DeficitNet") (T := T_X) (N := 10) (ci := 0) (v := .int (z6.1 0 0 7)) hx hb hts in_X hown hK hW okX0 rfl rfl 7 (by decide) t_228 rfl d_X_flow_83 ?_
                refine lv_iconst (v := (1 : Int32)) hx hb d_X_flow_86 (by decide) ?_
                refine lv_iadd hx hb d_X_flow_87 ?_
                refine q_put (L := LX) (kc := 0) (ki := 0) (C := "DeficitNet") (T := T_X) (N := 10) (ci := 0) hx hb hts in_X ty_X tyok_X nm_X hown hK hW hS okX0 rfl rfl 7 (by decide) t_228 rfl rfl rfl (Nat.le_of_ble_eq_true rfl) rfl d_X_flow_88 (fun H locs z7 ez7 hW hS => ?_)
                have h := stM_n h ez7
                refine lv_iload hx hb d_X_flow_91 (lv_at hl 0 rfl) ?_
                exact q_iret hx hb hr hlk hK hW hS h d_X_flow_93
              · have h := ite_t h hc
                refine lv_iconst (v := (-1 : Int32)) hx hb d_X_flow_58 (by decide) ?_
                exact q_iret hx hb hr hlk hK hW hS h d_X_flow_59
          · have h := ite_t h hc
            refine lv_iconst (v := (-1 : Int32)) hx hb d_X_flow_35 (by decide) ?_
            exact q_iret hx hb hr hlk hK hW hS h d_X_flow_36
set_option maxHeartbeats 4000000 in
set_option maxRecDepth 100000 in
theorem c_X_isFlow (l : Launch) (G : GG) (b : Nat) (x1 : Int32) (z : Mem) (r0 : Int32) (z0 : Mem) (h : dn_X_isFlow x1 z = some (r0, z0)) : MtW l y_X_isFlow b_X_isFlow 2 (some .boolean) rm_X_isFlow LX G b [.ref (ad LX b 0 0), .int x1] z (QI LX G b r0 z0) := by
  refine mtW_of (by decide) (Nat.le_of_ble_eq_true rfl) ?_
  intro p e s m args below meth c ls H locs C hW hS hl
  obtain ⟨hx, hb, hml, hr, hown, hts, hlk, hK⟩ := C
  have hl : lv_has ls 2 [(0, .ref (ad LX b 0 0)), (1, .int x1)] := hl
  unfold dn_X_isFlow at h
  refine lv_iload_n hx hb d_X_isFlow_0 rfl (lv_at hl 1 rfl) ?_
  refine lv_iconst (v := (0 : Int32)) hx hb d_X_isFlow_1 (by decide) ?_
  refine lv_aload_n hx hb d_X_isFlow_2 rfl (lv_at hl 0 rfl) ?_
  refine q_get (L := LX) (kc := 0) (ki := 0) (C := "DeficitNet") (T := T_X) (N := 10) (ci := 0) (v := .int (z.1 0 0 7)) hx hb hts in_X hown hK hW okX0 rfl rfl 7 (by decide) t_228 rfl d_X_isFlow_3 ?_
  refine lv_iconst (v := (1 : Int32)) hx hb d_X_isFlow_6 (by decide) ?_
  refine lv_isub hx hb d_X_isFlow_7 ?_
  obtain ⟨v1, ev1, h⟩ := bnd h
  refine q_callPi (As := [.int x1, .int (0 : Int32), .int ((z.1 0 0 7) - (1 : Int32))]) (rest := []) hx hb hml hown hts hW hS (c_X_isWithin l x1 (0 : Int32) ((z.1 0 0 7) - (1 : Int32)) v1 ev1) f_X_isWithin t_260 ⟨rfl, rfl⟩ ⟨Nat.le_of_ble_eq_true rfl, Nat.le_of_ble_eq_true rfl⟩ rfl hl.1 rfl (Nat.le_of_ble_eq_true rfl) d_X_isFlow_8 (fun H locs hW hS => ?_)
  obtain ⟨_, u2, h⟩ := bnd h
  exact q_zret hx hb hr hlk hK hW hS (bz_some u2) h d_X_isFlow_11
set_option maxHeartbeats 4000000 in
set_option maxRecDepth 100000 in
theorem c_X_tune (l : Launch) (G : GG) (b : Nat) (x1 : Int32) (x2 : Int32) (x3 : Int32) (x4 : Int32) (z : Mem) (r0 : Int32) (z0 : Mem) (h : dn_X_tune x1 x2 x3 x4 z = some (r0, z0)) : MtW l y_X_tune b_X_tune 5 (some .boolean) rm_X_tune LX G b [.ref (ad LX b 0 0), .int x1, .int x2, .int x3, .int x4] z (QI LX G b r0 z0) := by
  refine mtW_of (by decide) (Nat.le_of_ble_eq_true rfl) ?_
  intro p e s m args below meth c ls H locs C hW hS hl
  obtain ⟨hx, hb, hml, hr, hown, hts, hlk, hK⟩ := C
  have hl : lv_has ls 5 [(0, .ref (ad LX b 0 0)), (1, .int x1), (2, .int x2), (3, .int x3), (4, .int x4)] := hl
  unfold dn_X_tune at h
  refine lv_aload_n hx hb d_X_tune_0 rfl (lv_at hl 0 rfl) ?_
  refine q_get (L := LX) (kc := 0) (ki := 0) (C := "DeficitNet") (T := T_X) (N := 10) (ci := 0) (v := .int (z.1 0 0 9)) hx hb hts in_X hown hK hW okX0 rfl rfl 9 (by decide) t_230 rfl d_X_tune_1 ?_
  refine lv_if_ne (tgt := 25) hx hb d_X_tune_4 (by decide) (fun hc => ?_) (fun hc => ?_)
  · have h := ite_f h hc
    refine lv_iconst (v := (0 : Int32)) hx hb d_X_tune_25 (by decide) ?_
    obtain ⟨_, u1, h⟩ := bnd h
    exact q_zret hx hb hr hlk hK hW hS (bz_some u1) h d_X_tune_26
  · have h := ite_t h hc
    refine lv_aload_n hx hb d_X_tune_7 rfl (lv_at hl 0 rfl) ?_
    refine lv_iload_n hx hb d_X_tune_8 rfl (lv_at hl 1 rfl) ?_
    obtain ⟨⟨v2, z2⟩, er2, h⟩ := bnd h
    refine q_callVi (C := "DeficitNet") (As := [.int x1]) (rest := []) hx hb hml hown hts hK hW hS (c_X_isFlow l G b x1 z v2 z2 er2) f_X_isFlow t_292 ⟨rfl, rfl⟩ ⟨Nat.le_of_ble_eq_true rfl, Nat.le_of_ble_eq_true rfl⟩ (q_recv (L := LX) (kc := 0) (ki := 0) hK hW okX0 rfl rfl) rfl hl.1 rfl (Nat.le_of_ble_eq_true rfl) d_X_tune_9 (fun H locs hW hS => ?_)
    refine lv_if_eq (tgt := 25) hx hb d_X_tune_12 (by decide) (fun hc => ?_) (fun hc => ?_)
    · have h := ite_t h hc
      refine lv_iconst (v := (0 : Int32)) hx hb d_X_tune_25 (by decide) ?_
      obtain ⟨_, u3, h⟩ := bnd h
      exact q_zret hx hb hr hlk hK hW hS (bz_some u3) h d_X_tune_26
    · have h := ite_f h hc
      refine lv_iload_n hx hb d_X_tune_15 rfl (lv_at hl 2 rfl) ?_
      refine lv_iconst (v := (1 : Int32)) hx hb d_X_tune_16 (by decide) ?_
      refine lv_bipush (v := (8 : Int32)) hx hb d_X_tune_17 (by decide) ?_
      obtain ⟨v4, ev4, h⟩ := bnd h
      refine q_callPi (As := [.int x2, .int (1 : Int32), .int (8 : Int32)]) (rest := []) hx hb hml hown hts hW hS (c_X_isWithin l x2 (1 : Int32) (8 : Int32) v4 ev4) f_X_isWithin t_260 ⟨rfl, rfl⟩ ⟨Nat.le_of_ble_eq_true rfl, Nat.le_of_ble_eq_true rfl⟩ rfl hl.1 rfl (Nat.le_of_ble_eq_true rfl) d_X_tune_19 (fun H locs hW hS => ?_)
      refine lv_if_ne (tgt := 27) hx hb d_X_tune_22 (by decide) (fun hc => ?_) (fun hc => ?_)
      · have h := ite_f h hc
        refine lv_iload_n hx hb d_X_tune_27 rfl (lv_at hl 3 rfl) ?_
        refine lv_iconst (v := (1 : Int32)) hx hb d_X_tune_28 (by decide) ?_
        refine lv_sipush (v := (200 : Int32)) hx hb d_X_tune_29 (by decide) ?_
        obtain ⟨v5, ev5, h⟩ := bnd h
        refine q_callPi (As := [.int x3, .int (1 : Int32), .int (200 : Int32)]) (rest := []) hx hb hml hown hts hW hS (c_X_isWithin l x3 (1 : Int32) (200 : Int32) v5 ev5) f_X_isWithin t_260 ⟨rfl, rfl⟩ ⟨Nat.le_of_ble_eq_true rfl, Nat.le_of_ble_eq_true rfl⟩ rfl hl.1 rfl (Nat.le_of_ble_eq_true rfl) d_X_tune_32 (fun H locs hW hS => ?_)
        refine lv_if_eq (tgt := 50) hx hb d_X_tune_35 (by decide) (fun hc => ?_) (fun hc => ?_)
        · have h := ite_t h hc
          refine lv_iconst (v := (0 : Int32)) hx hb d_X_tune_50 (by decide) ?_
          obtain ⟨_, u6, h⟩ := bnd h
          exact q_zret hx hb hr hlk hK hW hS (bz_some u6) h d_X_tune_51
        · have h := ite_f h hc
          refine lv_iload hx hb d_X_tune_38 (lv_at hl 4 rfl) ?_
          refine lv_iconst (v := (0 : Int32)) hx hb d_X_tune_40 (by decide) ?_
          refine lv_sipush (v := (1000 : Int32)) hx hb d_X_tune_41 (by decide) ?_
          obtain ⟨v7, ev7, h⟩ := bnd h
          refine q_callPi (As := [.int x4, .int (0 : Int32), .int (1000 : Int32)]) (rest := []) hx hb hml hown hts hW hS (c_X_isWithin l x4 (0 : Int32) (1000 : Int32) v7 ev7) f_X_isWithin t_260 ⟨rfl, rfl⟩ ⟨Nat.le_of_ble_eq_true rfl, Nat.le_of_ble_eq_true rfl⟩ rfl hl.1 rfl (Nat.le_of_ble_eq_true rfl) d_X_tune_44 (fun H locs hW hS => ?_)
          refine lv_if_ne (tgt := 52) hx hb d_X_tune_47 (by decide) (fun hc => ?_) (fun hc => ?_)
          · have h := ite_f h hc
            refine lv_aload_n hx hb d_X_tune_52 rfl (lv_at hl 0 rfl) ?_
            refine q_get (L := LX) (kc := 0) (ki := 0) (C := "DeficitNet") (T := T_X) (N := 10) (ci := 0) (v := .ref (ad LX b 8 0)) hx hb hts in_X hown hK hW okX0 rfl rfl 2 (by decide) t_223 rfl d_X_tune_53 ?_
            refine lv_iload_n hx hb d_X_tune_56 rfl (lv_at hl 1 rfl) ?_
            obtain ⟨j8, ej8, h⟩ := bnd h
            refine q_aald (t0 := 5) (ty := (.object "DeficitNet$Flow")) (kd := 9) (L := LX) (kc := 8) (ki := 0) hx hb hK hW okX8 rfl rfl rfl ej8 d_X_tune_57 ?_
            refine lv_iload_n hx hb d_X_tune_58 rfl (lv_at hl 2 rfl) ?_
            refine q_put (L := LX) (kc := 9) (ki := j8) (C := "DeficitNet$Flow") (T := T_F) (N := 14) (ci := 2) hx hb hts in_F ty_F tyok_F nm_F hown hK hW hS (okX9 (aix_lt ej8)) rfl rfl 4 (by decide) t_101 rfl rfl rfl (Nat.le_of_ble_eq_true rfl) rfl d_X_tune_59 (fun H locs z9 ez9 hW hS => ?_)
            have h := stM_n h ez9
            refine lv_aload_n hx hb d_X_tune_62 rfl (lv_at hl 0 rfl) ?_
            refine q_get (L := LX) (kc := 0) (ki := 0) (C := "DeficitNet") (T := T_X) (N := 10) (ci := 0) (v := .ref (ad LX b 8 0)) hx hb hts in_X hown hK hW okX0 rfl rfl 2 (by decide) t_223 rfl d_X_tune_63 ?_
            refine lv_iload_n hx hb d_X_tune_66 rfl (lv_at hl 1 rfl) ?_
            obtain ⟨j10, ej10, h⟩ := bnd h
            refine q_aald (t0 := 5) (ty := (.object "DeficitNet$Flow")) (kd := 9) (L := LX) (kc := 8) (ki := 0) hx hb hK hW okX8 rfl rfl rfl ej10 d_X_tune_67 ?_
            refine lv_iload_n hx hb d_X_tune_68 rfl (lv_at hl 3 rfl) ?_
            refine q_put (L := LX) (kc := 9) (ki := j10) (C := "DeficitNet$Flow") (T := T_F) (N := 14) (ci := 2) hx hb hts in_F ty_F tyok_F nm_F hown hK hW hS (okX9 (aix_lt ej10)) rfl rfl 5 (by decide) t_103 rfl rfl rfl (Nat.le_of_ble_eq_true rfl) rfl d_X_tune_69 (fun H locs z11 ez11 hW hS => ?_)
            have h := stM_n h ez11
            refine lv_aload_n hx hb d_X_tune_72 rfl (lv_at hl 0 rfl) ?_
            refine q_get (L := LX) (kc := 0) (ki := 0) (C := "DeficitNet") (T := T_X) (N := 10) (ci := 0) (v := .ref (ad LX b 8 0)) hx hb hts in_X hown hK hW okX0 rfl rfl 2 (by decide) t_223 rfl d_X_tune_73 ?_
            refine lv_iload_n hx hb d_X_tune_76 rfl (lv_at hl 1 rfl) ?_
            obtain ⟨j12, ej12, h⟩ := bnd h
            refine q_aald (t0 := 5) (ty := (.object "DeficitNet$Flow")) (kd := 9) (L := LX) (kc := 8) (ki := 0) hx hb hK hW okX8 rfl rfl rfl ej12 d_X_tune_77 ?_
            refine lv_iload hx hb d_X_tune_78 (lv_at hl 4 rfl) ?_
            refine q_put (L := LX) (kc := 9) (ki := j12) (C := "DeficitNet$Flow") (T := T_F) (N := 14) (ci := 2) hx hb hts in_F ty_F tyok_F nm_F hown hK hW hS (okX9 (aix_lt ej12)) rfl rfl 6 (by decide) t_105 rfl rfl rfl (Nat.le_of_ble_eq_true rfl) rfl d_X_tune_80 (fun H locs z13 ez13 hW hS => ?_)
            have h := stM_n h ez13
            refine lv_iconst (v := (1 : Int32)) hx hb d_X_tune_83 (by decide) ?_
            obtain ⟨_, u14, h⟩ := bnd h
            exact q_zret hx hb hr hlk hK hW hS (bz_some u14) h d_X_tune_84
          · have h := ite_t h hc
            refine lv_iconst (v := (0 : Int32)) hx hb d_X_tune_50 (by decide) ?_
            obtain ⟨_, u15, h⟩ := bnd h
            exact q_zret hx hb hr hlk hK hW hS (bz_some u15) h d_X_tune_51
      · have h := ite_t h hc
        refine lv_iconst (v := (0 : Int32)) hx hb d_X_tune_25 (by decide) ?_
        obtain ⟨_, u16, h⟩ := bnd h
        exact q_zret hx hb hr hlk hK hW hS (bz_some u16) h d_X_tune_26
set_option maxHeartbeats 4000000 in
set_option maxRecDepth 100000 in
theorem w_J_fillX2_5 {p : Program} {l : Launch} {e : Env} {s : State} {m : MethodId} {args : Array Value} {below : List Frame} {meth : Method} {c : Code} {G : GG} {b : Nat} {z0 : Mem} (C : Cx y_J_fill0 b_J_fill0 4 none p s m args meth c G) {k20 : Mem → Option Mem} 
    (hk20 : ∀  (z : Mem) (ls : Array Slot) (H : Heap) (locs : List Loc), Wd LX G b z H → va_S (rgL LX b) s.heap H locs → lv_has ls 4 [] → k20  z = some z0 → W p l e rm_J_fillX2 s m args below meth c H locs 0 0 (MQ below (QV LX G b z0) args s 0 0 (rgL LX b)) (F0 m 20 ls [])) :
    ∀ (n : Nat) (x0 : Nat) (x1 : Int32) (x2 : Int32) (x3 : Int32) (z : Mem) (ls : Array Slot) (H : Heap) (locs : List Loc), x0 < 8 → Wd LX G b z H → va_S (rgL LX b) s.heap H locs → lv_has ls 4 [(0, .ref (ad LX b 2 x0)), (1, .int x1), (2, .int x2), (3, .int x3)] → dn_J_fillX2_5 k20 n x0 x1 x2 x3 z = some z0 → W p l e rm_J_fillX2 s m args below meth c H locs 0 0 (MQ below (QV LX G b z0) args s 0 0 (rgL LX b)) (F0 m 5 ls []) := by
  obtain ⟨hx, hb, hml, hr, hown, hts, hlk, hK⟩ := C
  intro n
  induction n with
  | zero =>
    intro x0 x1 x2 x3 z ls H locs qx0 hW hS hl h
    cases h
  | succ n ih =>
    intro x0 x1 x2 x3 z ls H locs qx0 hW hS hl h
    rw [dn_J_fillX2_5] at h
    refine lv_iload_n hx hb d_J_fill0_5 rfl (lv_at hl 2 rfl) ?_
    refine lv_iload_n hx hb d_J_fill0_6 rfl (lv_at hl 3 rfl) ?_
    refine lv_icmp_ge (tgt := 20) hx hb d_J_fill0_7 (by decide) (fun hc => ?_) (fun hc => ?_)
    · have h := ite_t h hc
      exact hk20  z ls H locs  hW hS (lv_sub hl [] rfl) h
    · have h := ite_f h hc
      refine lv_aload_n hx hb d_J_fill0_10 rfl (lv_at hl 0 rfl) ?_
      refine lv_iload_n hx hb d_J_fill0_11 rfl (lv_at hl 2 rfl) ?_
      refine lv_iload_n hx hb d_J_fill0_12 rfl (lv_at hl 1 rfl) ?_
      obtain ⟨j1, ej1, h⟩ := bnd h
      refine q_iast (L := LX) (kc := 2) (ki := x0) hx hb hK hW hS (okX2 qx0) (fun _ => rfl) ej1 d_J_fill0_13 (fun H locs z2 ez2 hW hS => ?_)
      have h := stM_n h ez2
      refine lv_iinc (k := 2) (v := (x2 + (1 : Int32))) hx hb d_J_fill0_14 hl rfl rfl (by decide) rfl (fun ls hl => ?_)
      have hl : lv_has ls 4 [(2, .int (x2 + (1 : Int32))), (0, .ref (ad LX b 2 x0)), (1, .int x1), (3, .int x3)] := hl
      refine lv_goto (tgt := 5) hx hb d_J_fill0_17 (by decide) ?_
      exact ih x0 x1 (x2 + (1 : Int32)) x3 z2 ls H locs qx0 hW hS (lv_sub hl [1, 2, 0, 3] rfl) h
set_option maxHeartbeats 4000000 in
set_option maxRecDepth 100000 in
theorem c_J_fillX2 (l : Launch) (G : GG) (b : Nat) (x0 : Nat) (x1 : Int32) (z : Mem) (z0 : Mem) (qx0 : x0 < 8) (h : dn_J_fillX2 x0 x1 z = some z0) : MtW l y_J_fill0 b_J_fill0 4 none rm_J_fillX2 LX G b [.ref (ad LX b 2 x0), .int x1] z (QV LX G b z0) := by
  refine mtW_of (by decide) (Nat.le_of_ble_eq_true rfl) ?_
  intro p e s m args below meth c ls H locs C hW hS hl
  obtain ⟨hx, hb, hml, hr, hown, hts, hlk, hK⟩ := C
  have hl : lv_has ls 4 [(0, .ref (ad LX b 2 x0)), (1, .int x1)] := hl
  unfold dn_J_fillX2 at h
  refine lv_iconst (v := (0 : Int32)) hx hb d_J_fill0_0 (by decide) ?_
  refine lv_istore_n hx hb d_J_fill0_1 rfl hl (by decide) rfl (fun ls hl => ?_)
  have hl : lv_has ls 4 [(2, .int (0 : Int32)), (0, .ref (ad LX b 2 x0)), (1, .int x1)] := hl
  refine lv_aload_n hx hb d_J_fill0_2 rfl (lv_at hl 1 rfl) ?_
  refine q_alen (L := LX) (kc := 2) (ki := x0) (t0 := 0) (ty := .int) (v := (8 : Int32)) hx hb hK hW (okX2 qx0) rfl rfl rfl d_J_fill0_3 ?_
  refine lv_istore_n hx hb d_J_fill0_4 rfl hl (by decide) rfl (fun ls hl => ?_)
  have hl : lv_has ls 4 [(3, .int (8 : Int32)), (2, .int (0 : Int32)), (0, .ref (ad LX b 2 x0)), (1, .int x1)] := hl
  refine w_J_fillX2_5 ⟨hx, hb, hml, hr, hown, hts, hlk, hK⟩ (fun z3 ls H locs  hW hS hl h => ?_) FU x0 x1 (0 : Int32) (8 : Int32) z ls H locs qx0 hW hS (lv_sub hl [2, 3, 1, 0] rfl) h
  · exact q_vret hx hb hr hlk hK hW hS h d_J_fill0_20
set_option maxHeartbeats 4000000 in
set_option maxRecDepth 100000 in
theorem w_J_fillX13_5 {p : Program} {l : Launch} {e : Env} {s : State} {m : MethodId} {args : Array Value} {below : List Frame} {meth : Method} {c : Code} {G : GG} {b : Nat} {z0 : Mem} (C : Cx y_J_fill0 b_J_fill0 4 none p s m args meth c G) {k20 : Mem → Option Mem} 
    (hk20 : ∀  (z : Mem) (ls : Array Slot) (H : Heap) (locs : List Loc), Wd LX G b z H → va_S (rgL LX b) s.heap H locs → lv_has ls 4 [] → k20  z = some z0 → W p l e rm_J_fillX13 s m args below meth c H locs 0 0 (MQ below (QV LX G b z0) args s 0 0 (rgL LX b)) (F0 m 20 ls [])) :
    ∀ (n : Nat) (x1 : Int32) (x2 : Int32) (x3 : Int32) (z : Mem) (ls : Array Slot) (H : Heap) (locs : List Loc), Wd LX G b z H → va_S (rgL LX b) s.heap H locs → lv_has ls 4 [(0, .ref (ad LX b 13 0)), (1, .int x1), (2, .int x2), (3, .int x3)] → dn_J_fillX13_5 k20 n x1 x2 x3 z = some z0 → W p l e rm_J_fillX13 s m args below meth c H locs 0 0 (MQ below (QV LX G b z0) args s 0 0 (rgL LX b)) (F0 m 5 ls []) := by
  obtain ⟨hx, hb, hml, hr, hown, hts, hlk, hK⟩ := C
  intro n
  induction n with
  | zero =>
    intro x1 x2 x3 z ls H locs  hW hS hl h
    cases h
  | succ n ih =>
    intro x1 x2 x3 z ls H locs  hW hS hl h
    rw [dn_J_fillX13_5] at h
    refine lv_iload_n hx hb d_J_fill0_5 rfl (lv_at hl 2 rfl) ?_
    refine lv_iload_n hx hb d_J_fill0_6 rfl (lv_at hl 3 rfl) ?_
    refine lv_icmp_ge (tgt := 20) hx hb d_J_fill0_7 (by decide) (fun hc => ?_) (fun hc => ?_)
    · have h := ite_t h hc
      exact hk20  z ls H locs  hW hS (lv_sub hl [] rfl) h
    · have h := ite_f h hc
      refine lv_aload_n hx hb d_J_fill0_10 rfl (lv_at hl 0 rfl) ?_
      refine lv_iload_n hx hb d_J_fill0_11 rfl (lv_at hl 2 rfl) ?_
      refine lv_iload_n hx hb d_J_fill0_12 rfl (lv_at hl 1 rfl) ?_
      obtain ⟨j1, ej1, h⟩ := bnd h
      refine q_iast (L := LX) (kc := 13) (ki := 0) hx hb hK hW hS okX13 (fun _ => rfl) ej1 d_J_fill0_13 (fun H locs z2 ez2 hW hS => ?_)
      have h := stM_n h ez2
      refine lv_iinc (k := 2) (v := (x2 + (1 : Int32))) hx hb d_J_fill0_14 hl rfl rfl (by decide) rfl (fun ls hl => ?_)
      have hl : lv_has ls 4 [(2, .int (x2 + (1 : Int32))), (0, .ref (ad LX b 13 0)), (1, .int x1), (3, .int x3)] := hl
      refine lv_goto (tgt := 5) hx hb d_J_fill0_17 (by decide) ?_
      exact ih x1 (x2 + (1 : Int32)) x3 z2 ls H locs  hW hS (lv_sub hl [1, 2, 0, 3] rfl) h
set_option maxHeartbeats 4000000 in
set_option maxRecDepth 100000 in
theorem c_J_fillX13 (l : Launch) (G : GG) (b : Nat) (x1 : Int32) (z : Mem) (z0 : Mem) (h : dn_J_fillX13 x1 z = some z0) : MtW l y_J_fill0 b_J_fill0 4 none rm_J_fillX13 LX G b [.ref (ad LX b 13 0), .int x1] z (QV LX G b z0) := by
  refine mtW_of (by decide) (Nat.le_of_ble_eq_true rfl) ?_
  intro p e s m args below meth c ls H locs C hW hS hl
  obtain ⟨hx, hb, hml, hr, hown, hts, hlk, hK⟩ := C
  have hl : lv_has ls 4 [(0, .ref (ad LX b 13 0)), (1, .int x1)] := hl
  unfold dn_J_fillX13 at h
  refine lv_iconst (v := (0 : Int32)) hx hb d_J_fill0_0 (by decide) ?_
  refine lv_istore_n hx hb d_J_fill0_1 rfl hl (by decide) rfl (fun ls hl => ?_)
  have hl : lv_has ls 4 [(2, .int (0 : Int32)), (0, .ref (ad LX b 13 0)), (1, .int x1)] := hl
  refine lv_aload_n hx hb d_J_fill0_2 rfl (lv_at hl 1 rfl) ?_
  refine q_alen (L := LX) (kc := 13) (ki := 0) (t0 := 0) (ty := .int) (v := (70 : Int32)) hx hb hK hW okX13 rfl rfl rfl d_J_fill0_3 ?_
  refine lv_istore_n hx hb d_J_fill0_4 rfl hl (by decide) rfl (fun ls hl => ?_)
  have hl : lv_has ls 4 [(3, .int (70 : Int32)), (2, .int (0 : Int32)), (0, .ref (ad LX b 13 0)), (1, .int x1)] := hl
  refine w_J_fillX13_5 ⟨hx, hb, hml, hr, hown, hts, hlk, hK⟩ (fun z3 ls H locs  hW hS hl h => ?_) FU x1 (0 : Int32) (70 : Int32) z ls H locs  hW hS (lv_sub hl [2, 3, 1, 0] rfl) h
  · exact q_vret hx hb hr hlk hK hW hS h d_J_fill0_20
set_option maxHeartbeats 4000000 in
set_option maxRecDepth 100000 in
theorem c_A_unsetAll (l : Launch) (G : GG) (b : Nat) (z : Mem) (z0 : Mem) (h : dn_A_unsetAll z = some z0) : MtW l y_A_unsetAll b_A_unsetAll 1 none rm_A_unsetAll LX G b [.ref (ad LX b 12 0)] z (QV LX G b z0) := by
  refine mtW_of (by decide) (Nat.le_of_ble_eq_true rfl) ?_
  intro p e s m args below meth c ls H locs C hW hS hl
  obtain ⟨hx, hb, hml, hr, hown, hts, hlk, hK⟩ := C
  have hl : lv_has ls 1 [(0, .ref (ad LX b 12 0))] := hl
  unfold dn_A_unsetAll at h
  refine lv_aload_n hx hb d_A_unsetAll_0 rfl (lv_at hl 0 rfl) ?_
  refine q_get (L := LX) (kc := 12) (ki := 0) (C := "DeficitNet$Agenda") (T := T_A) (N := 4) (ci := 1) (v := .ref (ad LX b 13 0)) hx hb hts in_A hown hK hW okX12 rfl rfl 0 (by decide) t_190 rfl d_A_unsetAll_1 ?_
  refine lv_iconst (v := (0 : Int32)) hx hb d_A_unsetAll_4 (by decide) ?_
  obtain ⟨z1, ez1, h⟩ := bnd h
  refine q_callSv (As := [.ref (ad LX b 13 0), .int (0 : Int32)]) (rest := []) hx hb hml hown hts hK hW hS (c_J_fillX13 l G b (0 : Int32) z z1 ez1) f_J_fill0 t_216 ⟨rfl, rfl⟩ ⟨Nat.le_of_ble_eq_true rfl, Nat.le_of_ble_eq_true rfl⟩ rfl hl.1 rfl (Nat.le_of_ble_eq_true rfl) d_A_unsetAll_5 (fun H locs hW hS => ?_)
  refine lv_aload_n hx hb d_A_unsetAll_8 rfl (lv_at hl 0 rfl) ?_
  refine lv_iconst (v := (0 : Int32)) hx hb d_A_unsetAll_9 (by decide) ?_
  refine q_put (L := LX) (kc := 12) (ki := 0) (C := "DeficitNet$Agenda") (T := T_A) (N := 4) (ci := 1) hx hb hts in_A ty_A tyok_A nm_A hown hK hW hS okX12 rfl rfl 3 (by decide) t_195 rfl rfl rfl (Nat.le_of_ble_eq_true rfl) rfl d_A_unsetAll_10 (fun H locs z2 ez2 hW hS => ?_)
  have h := stM_n h ez2
  exact q_vret hx hb hr hlk hK hW hS h d_A_unsetAll_13
