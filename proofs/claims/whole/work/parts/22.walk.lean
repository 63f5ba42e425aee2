set_option maxHeartbeats 4000000 in
set_option maxRecDepth 100000 in
theorem c_P_append (l : Launch) (G : GG) (b : Nat) (x0 : Nat) (x1 : Int32) (z : Mem) (z0 : Mem) (qx0 : x0 < 24) (h : dn_P_append x0 x1 z = some z0) : MtW l y_P_append b_P_append 2 none rm_P_append LX G b [.ref (ad LX b 4 x0), .int x1] z (QV LX G b z0) := by
  refine mtW_of (by decide) (Nat.le_of_ble_eq_true rfl) ?_
  intro p e s m args below meth c ls H locs C hW hS hl
  obtain ⟨hx, hb, hml, hr, hown, hts, hlk, hK⟩ := C
  have hl : lv_has ls 2 [(0, .ref (ad LX b 4 x0)), (1, .int x1)] := hl
  unfold dn_P_append at h
  refine lv_aload_n hx hb d_P_append_0 rfl (lv_at hl 0 rfl) ?_
  refine q_get (L := LX) (kc := 4) (ki := x0) (C := "DeficitNet$Port") (T := T_P) (N := 14) (ci := 4) (v := .int (z.1 4 x0 9)) hx hb hts in_P hown hK hW (okX4 qx0) rfl rfl 9 (by decide) t_45 rfl d_P_append_1 ?_
  refine lv_bipush (v := (6 : Int32)) hx hb d_P_append_4 (by decide) ?_
  refine lv_icmp_ge (tgt := 29) hx hb d_P_append_6 (by decide) (fun hc => ?_) (fun hc => ?_)
  · have h := ite_t h hc
    exact q_vret hx hb hr hlk hK hW hS h d_P_append_29
  · have h := ite_f h hc
    refine lv_aload_n hx hb d_P_append_9 rfl (lv_at hl 0 rfl) ?_
    refine q_get (L := LX) (kc := 4) (ki := x0) (C := "DeficitNet$Port") (T := T_P) (N := 14) (ci := 4) (v := .ref (ad LX b 6 x0)) hx hb hts in_P hown hK hW (okX4 qx0) rfl rfl 12 (by decide) t_49 rfl d_P_append_10 ?_
    refine lv_aload_n hx hb d_P_append_13 rfl (lv_at hl 0 rfl) ?_
    refine q_get (L := LX) (kc := 4) (ki := x0) (C := "DeficitNet$Port") (T := T_P) (N := 14) (ci := 4) (v := .int (z.1 4 x0 9)) hx hb hts in_P hown hK hW (okX4 qx0) rfl rfl 9 (by decide) t_45 rfl d_P_append_14 ?_
    refine lv_iload_n hx hb d_P_append_17 rfl (lv_at hl 1 rfl) ?_
    obtain ⟨j1, ej1, h⟩ := bnd h
    refine q_iast (L := LX) (kc := 6) (ki := x0) hx hb hK hW hS (okX6 qx0) (fun _ => rfl) ej1 d_P_append_18 (fun H locs z2 ez2 hW hS => ?_)
    have h := stM_n h ez2
    refine lv_aload_n hx hb d_P_append_19 rfl (lv_at hl 0 rfl) ?_
    refine lv_dup hx hb d_P_append_20 rfl ?_
    refine q_get (L := LX) (kc := 4) (ki := x0) (C := "DeficitNet$Port") (T := T_P) (N := 14) (ci := 4) (v := .int (z2.1 4 x0 9)) hx hb hts in_P hown hK hW (okX4 qx0) rfl rfl 9 (by decide) t_45 rfl d_P_append_21 ?_
    refine lv_iconst (v := (1 : Int32)) hx hb d_P_append_24 (by decide) ?_
    refine lv_iadd hx hb d_P_append_25 ?_
    refine q_put (L := LX) (kc := 4) (ki := x0) (C := "DeficitNet$Port") (T := T_P) (N := 14) (ci := 4) hx hb hts in_P ty_P tyok_P nm_P hown hK hW hS (okX4 qx0) rfl rfl 9 (by decide) t_45 rfl rfl rfl (Nat.le_of_ble_eq_true rfl) rfl d_P_append_26 (fun H locs z3 ez3 hW hS => ?_)
    have h := stM_n h ez3
    exact q_vret hx hb hr hlk hK hW hS h d_P_append_29
set_option maxHeartbeats 4000000 in
set_option maxRecDepth 100000 in
theorem c_P_takeFrom (l : Launch) (G : GG) (b : Nat) (x0 : Nat) (x1 : Int32) (z : Mem) (r0 : Int32) (z0 : Mem) (qx0 : x0 < 24) (h : dn_P_takeFrom x0 x1 z = some (r0, z0)) : MtW l y_P_takeFrom b_P_takeFrom 3 (some .int) rm_P_takeFrom LX G b [.ref (ad LX b 4 x0), .int x1] z (QI LX G b r0 z0) := by
  refine mtW_of (by decide) (Nat.le_of_ble_eq_true rfl) ?_
  intro p e s m args below meth c ls H locs C hW hS hl
  obtain ⟨hx, hb, hml, hr, hown, hts, hlk, hK⟩ := C
  have hl : lv_has ls 3 [(0, .ref (ad LX b 4 x0)), (1, .int x1)] := hl
  unfold dn_P_takeFrom at h
  refine lv_aload_n hx hb d_P_takeFrom_0 rfl (lv_at hl 0 rfl) ?_
  refine q_get (L := LX) (kc := 4) (ki := x0) (C := "DeficitNet$Port") (T := T_P) (N := 14) (ci := 4) (v := .ref (ad LX b 5 x0)) hx hb hts in_P hown hK hW (okX4 qx0) rfl rfl 11 (by decide) t_47 rfl d_P_takeFrom_1 ?_
  refine lv_iload_n hx hb d_P_takeFrom_4 rfl (lv_at hl 1 rfl) ?_
  obtain ⟨j1, ej1, h⟩ := bnd h
  refine q_iald (L := LX) (kc := 5) (ki := x0) hx hb hK hW (okX5 qx0) rfl ej1 d_P_takeFrom_5 ?_
  refine lv_istore_n hx hb d_P_takeFrom_6 rfl hl (by decide) rfl (fun ls hl => ?_)
  have hl : lv_has ls 3 [(2, .int (z.1 5 x0 j1)), (0, .ref (ad LX b 4 x0)), (1, .int x1)] := hl
  refine lv_aload_n hx hb d_P_takeFrom_7 rfl (lv_at hl 1 rfl) ?_
  refine lv_dup hx hb d_P_takeFrom_8 rfl ?_
  refine q_get (L := LX) (kc := 4) (ki := x0) (C := "DeficitNet$Port") (T := T_P) (N := 14) (ci := 4) (v := .int (z.1 4 x0 8)) hx hb hts in_P hown hK hW (okX4 qx0) rfl rfl 8 (by decide) t_43 rfl d_P_takeFrom_9 ?_
  refine lv_iconst (v := (1 : Int32)) hx hb d_P_takeFrom_12 (by decide) ?_
  refine lv_isub hx hb d_P_takeFrom_13 ?_
  refine q_put (L := LX) (kc := 4) (ki := x0) (C := "DeficitNet$Port") (T := T_P) (N := 14) (ci := 4) hx hb hts in_P ty_P tyok_P nm_P hown hK hW hS (okX4 qx0) rfl rfl 8 (by decide) t_43 rfl rfl rfl (Nat.le_of_ble_eq_true rfl) rfl d_P_takeFrom_14 (fun H locs z2 ez2 hW hS => ?_)
  have h := stM_n h ez2
  refine lv_aload_n hx hb d_P_takeFrom_17 rfl (lv_at hl 1 rfl) ?_
  refine q_get (L := LX) (kc := 4) (ki := x0) (C := "DeficitNet$Port") (T := T_P) (N := 14) (ci := 4) (v := .ref (ad LX b 5 x0)) hx hb hts in_P hown hK hW (okX4 qx0) rfl rfl 11 (by decide) t_47 rfl d_P_takeFrom_18 ?_
  refine lv_iload_n hx hb d_P_takeFrom_21 rfl (lv_at hl 2 rfl) ?_
  refine lv_iconst (v := (1 : Int32)) hx hb d_P_takeFrom_22 (by decide) ?_
  refine lv_iadd hx hb d_P_takeFrom_23 ?_
  refine lv_aload_n hx hb d_P_takeFrom_24 rfl (lv_at hl 1 rfl) ?_
  refine q_get (L := LX) (kc := 4) (ki := x0) (C := "DeficitNet$Port") (T := T_P) (N := 14) (ci := 4) (v := .ref (ad LX b 5 x0)) hx hb hts in_P hown hK hW (okX4 qx0) rfl rfl 11 (by decide) t_47 rfl d_P_takeFrom_25 ?_
  refine lv_iload_n hx hb d_P_takeFrom_28 rfl (lv_at hl 2 rfl) ?_
  refine lv_aload_n hx hb d_P_takeFrom_29 rfl (lv_at hl 1 rfl) ?_
  refine q_get (L := LX) (kc := 4) (ki := x0) (C := "DeficitNet$Port") (T := T_P) (N := 14) (ci := 4) (v := .int (z2.1 4 x0 8)) hx hb hts in_P hown hK hW (okX4 qx0) rfl rfl 8 (by decide) t_43 rfl d_P_takeFrom_30 ?_
  refine lv_iload_n hx hb d_P_takeFrom_33 rfl (lv_at hl 2 rfl) ?_
  refine lv_isub hx hb d_P_takeFrom_34 ?_
  obtain ⟨_, u3, h⟩ := bnd h
  refine q_cpi (L := LX) (kc := 5) (ki := x0) hx hb (hml.trans hl.1.symm) hts hown t_393 acw hK hW hS (okX5 qx0) (fun _ => rfl) u3 (Nat.le_of_ble_eq_true rfl) (Nat.le_of_ble_eq_true rfl) d_P_takeFrom_35 (fun H locs z4 ez4 hW hS => ?_)
  have h := stM_n h ez4
  refine lv_iload_n hx hb d_P_takeFrom_38 rfl (lv_at hl 0 rfl) ?_
  exact q_iret hx hb hr hlk hK hW hS h d_P_takeFrom_39
set_option maxHeartbeats 4000000 in
set_option maxRecDepth 100000 in
theorem w_X_choose_2 {p : Program} {l : Launch} {e : Env} {s : State} {m : MethodId} {args : Array Value} {below : List Frame} {meth : Method} {c : Code} {G : GG} {b : Nat} {z0 : Mem} (C : Cx y_X_choose b_X_choose 6 none p s m args meth c G) {k62 : Nat → Int32 → Int32 → Nat → Mem → Option Mem} {k152 : Mem → Option Mem} 
    (hk62 : ∀ (x1 : Nat) (x3 : Int32) (x4 : Int32) (x5 : Nat) (z : Mem) (ls : Array Slot) (H : Heap) (locs : List Loc), x1 < 24 → x5 < 64 → Wd LX G b z H → va_S (rgL LX b) s.heap H locs → lv_has ls 6 [(0, .ref (ad LX b 0 0)), (1, .ref (ad LX b 4 x1)), (3, .int x3), (4, .int x4), (5, .ref (ad LX b 11 x5))] → k62 x1 x3 x4 x5 z = some z0 → W p l e rm_X_choose s m args below meth c H locs 0 0 (MQ below (QV LX G b z0) args s 0 0 (rgL LX b)) (F0 m 62 ls []))
    (hk152 : ∀  (z : Mem) (ls : Array Slot) (H : Heap) (locs : List Loc), Wd LX G b z H → va_S (rgL LX b) s.heap H locs → lv_has ls 6 [] → k152  z = some z0 → W p l e rm_X_choose s m args below meth c H locs 0 0 (MQ below (QV LX G b z0) args s 0 0 (rgL LX b)) (F0 m 152 ls [])) :
    ∀ (n : Nat) (x1 : Nat) (x2 : Int32) (z : Mem) (ls : Array Slot) (H : Heap) (locs : List Loc), x1 < 24 → Wd LX G b z H → va_S (rgL LX b) s.heap H locs → lv_has ls 6 [(0, .ref (ad LX b 0 0)), (1, .ref (ad LX b 4 x1)), (2, .int x2)] → dn_X_choose_2 k62 k152 n x1 x2 z = some z0 → W p l e rm_X_choose s m args below meth c H locs 0 0 (MQ below (QV LX G b z0) args s 0 0 (rgL LX b)) (F0 m 2 ls []) := by
  obtain ⟨hx, hb, hml, hr, hown, hts, hlk, hK⟩ := C
  intro n
  induction n with
  | zero =>
    intro x1 x2 z ls H locs qx1 hW hS hl h
    cases h
  | succ n ih =>
    intro x1 x2 z ls H locs qx1 hW hS hl h
    rw [dn_X_choose_2] at h
    refine lv_iload_n hx hb d_X_choose_2 rfl (lv_at hl 2 rfl) ?_
    refine lv_bipush (v := (54 : Int32)) hx hb d_X_choose_3 (by decide) ?_
    refine lv_icmp_ge (tgt := 152) hx hb d_X_choose_5 (by decide) (fun hc => ?_) (fun hc => ?_)
    · have h := ite_t h hc
      exact hk152  z ls H locs  hW hS (lv_sub hl [] rfl) h
    · have h := ite_f h hc
      refine lv_aload_n hx hb d_X_choose_8 rfl (lv_at hl 1 rfl) ?_
      refine q_get (L := LX) (kc := 4) (ki := x1) (C := "DeficitNet$Port") (T := T_P) (N := 14) (ci := 4) (v := .int (z.1 4 x1 8)) hx hb hts in_P hown hK hW (okX4 qx1) rfl rfl 8 (by decide) t_44 rfl d_X_choose_9 ?_
      refine lv_if_le (tgt := 152) hx hb d_X_choose_12 (by decide) (fun hc => ?_) (fun hc => ?_)
      · have h := ite_t h hc
        exact hk152  z ls H locs  hW hS (lv_sub hl [] rfl) h
      · have h := ite_f h hc
        refine lv_aload_n hx hb d_X_choose_15 rfl (lv_at hl 1 rfl) ?_
        refine q_get (L := LX) (kc := 4) (ki := x1) (C := "DeficitNet$Port") (T := T_P) (N := 14) (ci := 4) (v := .ref (ad LX b 6 x1)) hx hb hts in_P hown hK hW (okX4 qx1) rfl rfl 12 (by decide) t_50 rfl d_X_choose_16 ?_
        refine lv_iconst (v := (0 : Int32)) hx hb d_X_choose_19 (by decide) ?_
        obtain ⟨j1, ej1, h⟩ := bnd h
        refine q_iald (L := LX) (kc := 6) (ki := x1) hx hb hK hW (okX6 qx1) rfl ej1 d_X_choose_20 ?_
        refine lv_istore_n hx hb d_X_choose_21 rfl hl (by decide) rfl (fun ls hl => ?_)
        have hl : lv_has ls 6 [(3, .int (z.1 6 x1 j1)), (0, .ref (ad LX b 0 0)), (1, .ref (ad LX b 4 x1)), (2, .int x2)] := hl
        refine lv_aload_n hx hb d_X_choose_22 rfl (lv_at hl 2 rfl) ?_
        obtain ⟨z2, ez2, h⟩ := bnd h
        refine q_callVv (C := "DeficitNet$Port") (As := []) (rest := []) hx hb hml hown hts hK hW hS (c_P_serveFirst l G b x1 z z2 qx1 ez2) f_P_serveFirst t_381 ⟨rfl, rfl⟩ ⟨Nat.le_of_ble_eq_true rfl, Nat.le_of_ble_eq_true rfl⟩ (q_recv (L := LX) (kc := 4) (ki := x1) hK hW (okX4 qx1) rfl rfl) rfl hl.1 rfl (Nat.le_of_ble_eq_true rfl) d_X_choose_23 (fun H locs hW hS => ?_)
        refine lv_aload_n hx hb d_X_choose_26 rfl (lv_at hl 1 rfl) ?_
        refine lv_aload_n hx hb d_X_choose_27 rfl (lv_at hl 2 rfl) ?_
        refine lv_iload_n hx hb d_X_choose_28 rfl (lv_at hl 0 rfl) ?_
        obtain ⟨⟨v3, z3⟩, er3, h⟩ := bnd h
        refine q_callVi (C := "DeficitNet") (As := [.ref (ad LX b 4 x1), .int (z.1 6 x1 j1)]) (rest := []) hx hb hml hown hts hK hW hS (c_X_firstPlaceOf l G b x1 (z.1 6 x1 j1) z2 v3 z3 qx1 er3) f_X_firstPlaceOf t_385 ⟨rfl, rfl⟩ ⟨Nat.le_of_ble_eq_true rfl, Nat.le_of_ble_eq_true rfl⟩ (q_recv (L := LX) (kc := 0) (ki := 0) hK hW okX0 rfl rfl) rfl hl.1 rfl (Nat.le_of_ble_eq_true rfl) d_X_choose_29 (fun H locs hW hS => ?_)
        refine lv_istore hx hb d_X_choose_32 hl (by decide) rfl (fun ls hl => ?_)
        have hl : lv_has ls 6 [(4, .int v3), (3, .int (z.1 6 x1 j1)), (0, .ref (ad LX b 0 0)), (1, .ref (ad LX b 4 x1)), (2, .int x2)] := hl
        refine lv_aload_n hx hb d_X_choose_34 rfl (lv_at hl 2 rfl) ?_
        refine q_get (L := LX) (kc := 0) (ki := 0) (C := "DeficitNet") (T := T_X) (N := 10) (ci := 0) (v := .ref (ad LX b 10 0)) hx hb hts in_X hown hK hW okX0 rfl rfl 3 (by decide) t_224 rfl d_X_choose_35 ?_
        refine lv_aload_n hx hb d_X_choose_38 rfl (lv_at hl 3 rfl) ?_
        refine q_get (L := LX) (kc := 4) (ki := x1) (C := "DeficitNet$Port") (T := T_P) (N := 14) (ci := 4) (v := .ref (ad LX b 5 x1)) hx hb hts in_P hown hK hW (okX4 qx1) rfl rfl 11 (by decide) t_48 rfl d_X_choose_39 ?_
        refine lv_iload hx hb d_X_choose_42 (lv_at hl 0 rfl) ?_
        obtain ⟨j4, ej4, h⟩ := bnd h
        refine q_iald (L := LX) (kc := 5) (ki := x1) hx hb hK hW (okX5 qx1) rfl ej4 d_X_choose_44 ?_
        obtain ⟨j5, ej5, h⟩ := bnd h
        refine q_aald (t0 := 6) (ty := (.object "DeficitNet$Packet")) (kd := 11) (L := LX) (kc := 10) (ki := 0) hx hb hK hW okX10 rfl rfl rfl ej5 d_X_choose_45 ?_
        refine lv_astore hx hb d_X_choose_46 hl (by decide) rfl (fun ls hl => ?_)
        have hl : lv_has ls 6 [(5, .ref (ad LX b 11 j5)), (4, .int v3), (3, .int (z.1 6 x1 j1)), (0, .ref (ad LX b 0 0)), (1, .ref (ad LX b 4 x1)), (2, .int x2)] := hl
        refine lv_aload hx hb d_X_choose_48 (lv_at hl 0 rfl) ?_
        refine q_get (L := LX) (kc := 11) (ki := j5) (C := "DeficitNet$Packet") (T := T_K) (N := 7) (ci := 3) (v := .int (z3.1 11 j5 4)) hx hb hts in_K hown hK hW (okX11 (aix_lt ej5)) rfl rfl 4 (by decide) t_165 rfl d_X_choose_50 ?_
        refine lv_aload_n hx hb d_X_choose_53 rfl (lv_at hl 4 rfl) ?_
        refine q_get (L := LX) (kc := 4) (ki := x1) (C := "DeficitNet$Port") (T := T_P) (N := 14) (ci := 4) (v := .ref (ad LX b 7 x1)) hx hb hts in_P hown hK hW (okX4 qx1) rfl rfl 13 (by decide) t_52 rfl d_X_choose_54 ?_
        refine lv_iload_n hx hb d_X_choose_57 rfl (lv_at hl 2 rfl) ?_
        obtain ⟨j6, ej6, h⟩ := bnd h
        refine q_iald (L := LX) (kc := 7) (ki := x1) hx hb hK hW (okX7 qx1) rfl ej6 d_X_choose_58 ?_
        refine lv_icmp_gt (tgt := 137) hx hb d_X_choose_59 (by decide) (fun hc => ?_) (fun hc => ?_)
        · have h := ite_t h hc
          refine lv_aload_n hx hb d_X_choose_137 rfl (lv_at hl 4 rfl) ?_
          obtain ⟨z7, ez7, h⟩ := bnd h
          refine q_callVv (C := "DeficitNet$Port") (As := []) (rest := []) hx hb hml hown hts hK hW hS (c_P_dropFirst l G b x1 z3 z7 qx1 ez7) f_P_dropFirst t_394 ⟨rfl, rfl⟩ ⟨Nat.le_of_ble_eq_true rfl, Nat.le_of_ble_eq_true rfl⟩ (q_recv (L := LX) (kc := 4) (ki := x1) hK hW (okX4 qx1) rfl rfl) rfl hl.1 rfl (Nat.le_of_ble_eq_true rfl) d_X_choose_138 (fun H locs hW hS => ?_)
          refine lv_aload_n hx hb d_X_choose_141 rfl (lv_at hl 4 rfl) ?_
          refine lv_iload_n hx hb d_X_choose_142 rfl (lv_at hl 2 rfl) ?_
          obtain ⟨z8, ez8, h⟩ := bnd h
          refine q_callVv (C := "DeficitNet$Port") (As := [.int (z.1 6 x1 j1)]) (rest := []) hx hb hml hown hts hK hW hS (c_P_append l G b x1 (z.1 6 x1 j1) z7 z8 qx1 ez8) f_P_append t_373 ⟨rfl, rfl⟩ ⟨Nat.le_of_ble_eq_true rfl, Nat.le_of_ble_eq_true rfl⟩ (q_recv (L := LX) (kc := 4) (ki := x1) hK hW (okX4 qx1) rfl rfl) rfl hl.1 rfl (Nat.le_of_ble_eq_true rfl) d_X_choose_143 (fun H locs hW hS => ?_)
          refine lv_iinc (k := 5) (v := (x2 + (1 : Int32))) hx hb d_X_choose_146 hl rfl rfl (by decide) rfl (fun ls hl => ?_)
          have hl : lv_has ls 6 [(2, .int (x2 + (1 : Int32))), (5, .ref (ad LX b 11 j5)), (4, .int v3), (3, .int (z.1 6 x1 j1)), (0, .ref (ad LX b 0 0)), (1, .ref (ad LX b 4 x1))] := hl
          refine lv_goto (tgt := 2) hx hb d_X_choose_149 (by decide) ?_
          exact ih x1 (x2 + (1 : Int32)) z8 ls H locs qx1 hW hS (lv_sub hl [4, 5, 0] rfl) h
        · have h := ite_f h hc
          exact hk62 x1 (z.1 6 x1 j1) v3 j5 z3 ls H locs qx1 (aix_lt ej5) hW hS (lv_sub hl [3, 4, 2, 1, 0] rfl) h
set_option maxHeartbeats 4000000 in
set_option maxRecDepth 100000 in
theorem c_X_choose (l : Launch) (G : GG) (b : Nat) (x1 : Nat) (z : Mem) (z0 : Mem) (qx1 : x1 < 24) (h : dn_X_choose x1 z = some z0) : MtW l y_X_choose b_X_choose 6 none rm_X_choose LX G b [.ref (ad LX b 0 0), .ref (ad LX b 4 x1)] z (QV LX G b z0) := by
  refine mtW_of (by decide) (Nat.le_of_ble_eq_true rfl) ?_
  intro p e s m args below meth c ls H locs C hW hS hl
  obtain ⟨hx, hb, hml, hr, hown, hts, hlk, hK⟩ := C
  have hl : lv_has ls 6 [(0, .ref (ad LX b 0 0)), (1, .ref (ad LX b 4 x1))] := hl
  unfold dn_X_choose at h
  refine lv_iconst (v := (0 : Int32)) hx hb d_X_choose_0 (by decide) ?_
  refine lv_istore_n hx hb d_X_choose_1 rfl hl (by decide) rfl (fun ls hl => ?_)
  have hl : lv_has ls 6 [(2, .int (0 : Int32)), (0, .ref (ad LX b 0 0)), (1, .ref (ad LX b 4 x1))] := hl
  refine w_X_choose_2 ⟨hx, hb, hml, hr, hown, hts, hlk, hK⟩ (fun x1 x3 x4 x5 z9 ls H locs qx1 qx5 hW hS hl h => ?_) (fun z20 ls H locs  hW hS hl h => ?_) FU x1 (0 : Int32) z ls H locs qx1 hW hS (lv_sub hl [1, 2, 0] rfl) h
  · refine lv_aload_n hx hb d_X_choose_62 rfl (lv_at hl 1 rfl) ?_
    refine q_get (L := LX) (kc := 4) (ki := x1) (C := "DeficitNet$Port") (T := T_P) (N := 14) (ci := 4) (v := .ref (ad LX b 7 x1)) hx hb hts in_P hown hK hW (okX4 qx1) rfl rfl 13 (by decide) t_52 rfl d_X_choose_63 ?_
    refine lv_iload_n hx hb d_X_choose_66 rfl (lv_at hl 2 rfl) ?_
    refine lv_dup2_11 hx hb d_X_choose_67 rfl rfl ?_
    obtain ⟨j10, ej10, h⟩ := bnd h
    refine q_iald (L := LX) (kc := 7) (ki := x1) hx hb hK hW (okX7 qx1) rfl ej10 d_X_choose_68 ?_
    refine lv_aload hx hb d_X_choose_69 (lv_at hl 4 rfl) ?_
    refine q_get (L := LX) (kc := 11) (ki := x5) (C := "DeficitNet$Packet") (T := T_K) (N := 7) (ci := 3) (v := .int (z9.1 11 x5 4)) hx hb hts in_K hown hK hW (okX11 qx5) rfl rfl 4 (by decide) t_165 rfl d_X_choose_71 ?_
    refine lv_isub hx hb d_X_choose_74 ?_
    obtain ⟨j11, ej11, h⟩ := bnd h
    refine q_iast (L := LX) (kc := 7) (ki := x1) hx hb hK hW hS (okX7 qx1) (fun _ => rfl) ej11 d_X_choose_75 (fun H locs z12 ez12 hW hS => ?_)
    have h := stM_n h ez12
    refine lv_aload_n hx hb d_X_choose_76 rfl (lv_at hl 1 rfl) ?_
    refine lv_aload_n hx hb d_X_choose_77 rfl (lv_at hl 1 rfl) ?_
    refine lv_iload hx hb d_X_choose_78 (lv_at hl 3 rfl) ?_
    obtain ⟨⟨v13, z13⟩, er13, h⟩ := bnd h
    refine q_callVi (C := "DeficitNet$Port") (As := [.int x4]) (rest := [.ref (ad LX b 4 x1)]) hx hb hml hown hts hK hW hS (c_P_takeFrom l G b x1 x4 z12 v13 z13 qx1 er13) f_P_takeFrom t_389 ⟨rfl, rfl⟩ ⟨Nat.le_of_ble_eq_true rfl, Nat.le_of_ble_eq_true rfl⟩ (q_recv (L := LX) (kc := 4) (ki := x1) hK hW (okX4 qx1) rfl rfl) rfl hl.1 rfl (Nat.le_of_ble_eq_true rfl) d_X_choose_80 (fun H locs hW hS => ?_)
    refine q_put (L := LX) (kc := 4) (ki := x1) (C := "DeficitNet$Port") (T := T_P) (N := 14) (ci := 4) hx hb hts in_P ty_P tyok_P nm_P hown hK hW hS (okX4 qx1) rfl rfl 7 (by decide) t_42 rfl rfl rfl (Nat.le_of_ble_eq_true rfl) rfl d_X_choose_83 (fun H locs z14 ez14 hW hS => ?_)
    have h := stM_n h ez14
    refine lv_aload_n hx hb d_X_choose_86 rfl (lv_at hl 0 rfl) ?_
    refine q_get (L := LX) (kc := 0) (ki := 0) (C := "DeficitNet") (T := T_X) (N := 10) (ci := 0) (v := .ref (ad LX b 12 0)) hx hb hts in_X hown hK hW okX0 rfl rfl 4 (by decide) t_225 rfl d_X_choose_87 ?_
    refine lv_bipush (v := (6 : Int32)) hx hb d_X_choose_90 (by decide) ?_
    refine lv_aload_n hx hb d_X_choose_92 rfl (lv_at hl 1 rfl) ?_
    refine q_get (L := LX) (kc := 4) (ki := x1) (C := "DeficitNet$Port") (T := T_P) (N := 14) (ci := 4) (v := .int (z14.1 4 x1 7)) hx hb hts in_P hown hK hW (okX4 qx1) rfl rfl 7 (by decide) t_42 rfl d_X_choose_93 ?_
    refine lv_iadd hx hb d_X_choose_96 ?_
    refine lv_iconst (v := (2 : Int32)) hx hb d_X_choose_97 (by decide) ?_
    refine lv_aload_n hx hb d_X_choose_98 rfl (lv_at hl 0 rfl) ?_
    refine q_get (L := LX) (kc := 0) (ki := 0) (C := "DeficitNet") (T := T_X) (N := 10) (ci := 0) (v := .int (z14.1 0 0 8)) hx hb hts in_X hown hK hW okX0 rfl rfl 8 (by decide) t_229 rfl d_X_choose_99 ?_
    refine lv_aload hx hb d_X_choose_102 (lv_at hl 4 rfl) ?_
    refine q_get (L := LX) (kc := 11) (ki := x5) (C := "DeficitNet$Packet") (T := T_K) (N := 7) (ci := 3) (v := .int (z14.1 11 x5 4)) hx hb hts in_K hown hK hW (okX11 qx5) rfl rfl 4 (by decide) t_165 rfl d_X_choose_104 ?_
    refine lv_aload_n hx hb d_X_choose_107 rfl (lv_at hl 1 rfl) ?_
    refine q_get (L := LX) (kc := 4) (ki := x1) (C := "DeficitNet$Port") (T := T_P) (N := 14) (ci := 4) (v := .int (z14.1 4 x1 3)) hx hb hts in_P hown hK hW (okX4 qx1) rfl rfl 3 (by decide) t_34 rfl d_X_choose_108 ?_
    refine lv_imul hx hb d_X_choose_111 ?_
    refine lv_iadd hx hb d_X_choose_112 ?_
    obtain ⟨z15, ez15, h⟩ := bnd h
    refine q_callVv (C := "DeficitNet$Agenda") (As := [.int ((6 : Int32) + (z14.1 4 x1 7)), .int (2 : Int32), .int ((z14.1 0 0 8) + ((z14.1 11 x5 4) * (z14.1 4 x1 3)))]) (rest := []) hx hb hml hown hts hK hW hS (c_A_set l G b ((6 : Int32) + (z14.1 4 x1 7)) (2 : Int32) ((z14.1 0 0 8) + ((z14.1 11 x5 4) * (z14.1 4 x1 3))) z14 z15 ez15) f_A_set t_305 ⟨rfl, rfl⟩ ⟨Nat.le_of_ble_eq_true rfl, Nat.le_of_ble_eq_true rfl⟩ (q_recv (L := LX) (kc := 12) (ki := 0) hK hW okX12 rfl rfl) rfl hl.1 rfl (Nat.le_of_ble_eq_true rfl) d_X_choose_113 (fun H locs hW hS => ?_)
    refine lv_aload_n hx hb d_X_choose_116 rfl (lv_at hl 0 rfl) ?_
    refine lv_aload_n hx hb d_X_choose_117 rfl (lv_at hl 1 rfl) ?_
    refine lv_iload_n hx hb d_X_choose_118 rfl (lv_at hl 2 rfl) ?_
    obtain ⟨⟨v16, z16⟩, er16, h⟩ := bnd h
    refine q_callVi (C := "DeficitNet") (As := [.ref (ad LX b 4 x1), .int x3]) (rest := []) hx hb hml hown hts hK hW hS (c_X_queuedOf l G b x1 x3 z15 v16 z16 qx1 er16) f_X_queuedOf t_369 ⟨rfl, rfl⟩ ⟨Nat.le_of_ble_eq_true rfl, Nat.le_of_ble_eq_true rfl⟩ (q_recv (L := LX) (kc := 0) (ki := 0) hK hW okX0 rfl rfl) rfl hl.1 rfl (Nat.le_of_ble_eq_true rfl) d_X_choose_119 (fun H locs hW hS => ?_)
    refine lv_if_ne (tgt := 136) hx hb d_X_choose_122 (by decide) (fun hc => ?_) (fun hc => ?_)
    · have h := ite_f h hc
      exact q_vret hx hb hr hlk hK hW hS h d_X_choose_136
    · have h := ite_t h hc
      refine lv_aload_n hx hb d_X_choose_125 rfl (lv_at hl 1 rfl) ?_
      obtain ⟨z17, ez17, h⟩ := bnd h
      refine q_callVv (C := "DeficitNet$Port") (As := []) (rest := []) hx hb hml hown hts hK hW hS (c_P_dropFirst l G b x1 z16 z17 qx1 ez17) f_P_dropFirst t_394 ⟨rfl, rfl⟩ ⟨Nat.le_of_ble_eq_true rfl, Nat.le_of_ble_eq_true rfl⟩ (q_recv (L := LX) (kc := 4) (ki := x1) hK hW (okX4 qx1) rfl rfl) rfl hl.1 rfl (Nat.le_of_ble_eq_true rfl) d_X_choose_126 (fun H locs hW hS => ?_)
      refine lv_aload_n hx hb d_X_choose_129 rfl (lv_at hl 1 rfl) ?_
      refine q_get (L := LX) (kc := 4) (ki := x1) (C := "DeficitNet$Port") (T := T_P) (N := 14) (ci := 4) (v := .ref (ad LX b 7 x1)) hx hb hts in_P hown hK hW (okX4 qx1) rfl rfl 13 (by decide) t_52 rfl d_X_choose_130 ?_
      refine lv_iload_n hx hb d_X_choose_133 rfl (lv_at hl 2 rfl) ?_
      refine lv_iconst (v := (0 : Int32)) hx hb d_X_choose_134 (by decide) ?_
      obtain ⟨j18, ej18, h⟩ := bnd h
      refine q_iast (L := LX) (kc := 7) (ki := x1) hx hb hK hW hS (okX7 qx1) (fun _ => rfl) ej18 d_X_choose_135 (fun H locs z19 ez19 hW hS => ?_)
      have h := stM_n h ez19
      exact q_vret hx hb hr hlk hK hW hS h d_X_choose_136
  · exact q_vret hx hb hr hlk hK hW hS h d_X_choose_152
set_option maxHeartbeats 4000000 in
set_option maxRecDepth 100000 in
theorem c_X_put (l : Launch) (G : GG) (b : Nat) (x1 : Int32) (x2 : Int32) (z : Mem) (z0 : Mem) (h : dn_X_put x1 x2 z = some z0) : MtW l y_X_put b_X_put 6 none rm_X_put LX G b [.ref (ad LX b 0 0), .int x1, .int x2] z (QV LX G b z0) := by
  refine mtW_of (by decide) (Nat.le_of_ble_eq_true rfl) ?_
  intro p e s m args below meth c ls H locs C hW hS hl
  obtain ⟨hx, hb, hml, hr, hown, hts, hlk, hK⟩ := C
  have hl : lv_has ls 6 [(0, .ref (ad LX b 0 0)), (1, .int x1), (2, .int x2)] := hl
  unfold dn_X_put at h
  refine lv_iload_n hx hb d_X_put_0 rfl (lv_at hl 1 rfl) ?_
  refine lv_iconst (v := (-1 : Int32)) hx hb d_X_put_1 (by decide) ?_
  refine lv_icmp_ne (tgt := 6) hx hb d_X_put_2 (by decide) (fun hc => ?_) (fun hc => ?_)
  · have h := ite_f h hc
    refine lv_aload_n hx hb d_X_put_6 rfl (lv_at hl 0 rfl) ?_
    refine q_get (L := LX) (kc := 0) (ki := 0) (C := "DeficitNet") (T := T_X) (N := 10) (ci := 0) (v := .ref (ad LX b 10 0)) hx hb hts in_X hown hK hW okX0 rfl rfl 3 (by decide) t_224 rfl d_X_put_7 ?_
    refine lv_iload_n hx hb d_X_put_10 rfl (lv_at hl 1 rfl) ?_
    obtain ⟨j1, ej1, h⟩ := bnd h
    refine q_aald (t0 := 6) (ty := (.object "DeficitNet$Packet")) (kd := 11) (L := LX) (kc := 10) (ki := 0) hx hb hK hW okX10 rfl rfl rfl ej1 d_X_put_11 ?_
    refine lv_astore_n hx hb d_X_put_12 rfl hl (by decide) rfl (fun ls hl => ?_)
    have hl : lv_has ls 6 [(3, .ref (ad LX b 11 j1)), (0, .ref (ad LX b 0 0)), (1, .int x1), (2, .int x2)] := hl
    refine lv_aload_n hx hb d_X_put_13 rfl (lv_at hl 1 rfl) ?_
    refine lv_iload_n hx hb d_X_put_14 rfl (lv_at hl 3 rfl) ?_
    refine lv_aload_n hx hb d_X_put_15 rfl (lv_at hl 0 rfl) ?_
    refine q_get (L := LX) (kc := 11) (ki := j1) (C := "DeficitNet$Packet") (T := T_K) (N := 7) (ci := 3) (v := .int (z.1 11 j1 5)) hx hb hts in_K hown hK hW (okX11 (aix_lt ej1)) rfl rfl 5 (by decide) t_167 rfl d_X_put_16 ?_
    obtain ⟨⟨v2, z2⟩, er2, h⟩ := bnd h
    refine q_callVi (C := "DeficitNet") (As := [.int x2, .int (z.1 11 j1 5)]) (rest := []) hx hb hml hown hts hK hW hS (c_X_way l G b x2 (z.1 11 j1 5) z v2 z2 er2) f_X_way t_365 ⟨rfl, rfl⟩ ⟨Nat.le_of_ble_eq_true rfl, Nat.le_of_ble_eq_true rfl⟩ (q_recv (L := LX) (kc := 0) (ki := 0) hK hW okX0 rfl rfl) rfl hl.1 rfl (Nat.le_of_ble_eq_true rfl) d_X_put_19 (fun H locs hW hS => ?_)
    refine lv_istore hx hb d_X_put_22 hl (by decide) rfl (fun ls hl => ?_)
    have hl : lv_has ls 6 [(4, .int v2), (3, .ref (ad LX b 11 j1)), (0, .ref (ad LX b 0 0)), (1, .int x1), (2, .int x2)] := hl
    refine lv_iload hx hb d_X_put_24 (lv_at hl 0 rfl) ?_
    refine lv_iconst (v := (-1 : Int32)) hx hb d_X_put_26 (by decide) ?_
    refine lv_icmp_eq (tgt := 53) hx hb d_X_put_27 (by decide) (fun hc => ?_) (fun hc => ?_)
    · have h := ite_t h hc
      refine lv_aload_n hx hb d_X_put_53 rfl (lv_at hl 1 rfl) ?_
      refine lv_iconst (v := (0 : Int32)) hx hb d_X_put_54 (by decide) ?_
      obtain ⟨_, u3, h⟩ := bnd h
      refine q_put (L := LX) (kc := 11) (ki := j1) (C := "DeficitNet$Packet") (T := T_K) (N := 7) (ci := 3) hx hb hts in_K ty_K tyok_K nm_K hown hK hW hS (okX11 (aix_lt ej1)) rfl rfl 0 (by decide) t_157 rfl (bz_nar (bz_some u3)) (bz_fit (bz_some u3)) (Nat.le_of_ble_eq_true rfl) rfl d_X_put_55 (fun H locs z4 ez4 hW hS => ?_)
      have h := stM_n h ez4
      refine lv_aload_n hx hb d_X_put_58 rfl (lv_at hl 2 rfl) ?_
      refine q_get (L := LX) (kc := 0) (ki := 0) (C := "DeficitNet") (T := T_X) (N := 10) (ci := 0) (v := .ref (ad LX b 8 0)) hx hb hts in_X hown hK hW okX0 rfl rfl 2 (by decide) t_223 rfl d_X_put_59 ?_
      refine lv_aload_n hx hb d_X_put_62 rfl (lv_at hl 1 rfl) ?_
      refine q_get (L := LX) (kc := 11) (ki := j1) (C := "DeficitNet$Packet") (T := T_K) (N := 7) (ci := 3) (v := .int (z4.1 11 j1 2)) hx hb hts in_K hown hK hW (okX11 (aix_lt ej1)) rfl rfl 2 (by decide) t_161 rfl d_X_put_63 ?_
      obtain ⟨j5, ej5, h⟩ := bnd h
      refine q_aald (t0 := 5) (ty := (.object "DeficitNet$Flow")) (kd := 9) (L := LX) (kc := 8) (ki := 0) hx hb hK hW okX8 rfl rfl rfl ej5 d_X_put_66 ?_
      refine lv_dup hx hb d_X_put_67 rfl ?_
      refine q_get (L := LX) (kc := 9) (ki := j5) (C := "DeficitNet$Flow") (T := T_F) (N := 14) (ci := 2) (v := .int (z4.1 9 j5 12)) hx hb hts in_F hown hK hW (okX9 (aix_lt ej5)) rfl rfl 12 (by decide) t_117 rfl d_X_put_68 ?_
      refine lv_iconst (v := (1 : Int32)) hx hb d_X_put_71 (by decide) ?_
      refine lv_iadd hx hb d_X_put_72 ?_
      refine q_put (L := LX) (kc := 9) (ki := j5) (C := "DeficitNet$Flow") (T := T_F) (N := 14) (ci := 2) hx hb hts in_F ty_F tyok_F nm_F hown hK hW hS (okX9 (aix_lt ej5)) rfl rfl 12 (by decide) t_117 rfl rfl rfl (Nat.le_of_ble_eq_true rfl) rfl d_X_put_73 (fun H locs z6 ez6 hW hS => ?_)
      have h := stM_n h ez6
      exact q_vret hx hb hr hlk hK hW hS h d_X_put_76
    · have h := ite_f h hc
      refine lv_aload_n hx hb d_X_put_30 rfl (lv_at hl 2 rfl) ?_
      refine q_get (L := LX) (kc := 0) (ki := 0) (C := "DeficitNet") (T := T_X) (N := 10) (ci := 0) (v := .ref (ad LX b 3 0)) hx hb hts in_X hown hK hW okX0 rfl rfl 1 (by decide) t_222 rfl d_X_put_31 ?_
      refine lv_iload hx hb d_X_put_34 (lv_at hl 0 rfl) ?_
      obtain ⟨j7, ej7, h⟩ := bnd h
      refine q_aald (t0 := 4) (ty := (.object "DeficitNet$Port")) (kd := 4) (L := LX) (kc := 3) (ki := 0) hx hb hK hW okX3 rfl rfl rfl ej7 d_X_put_36 ?_
      refine q_get (L := LX) (kc := 4) (ki := j7) (C := "DeficitNet$Port") (T := T_P) (N := 14) (ci := 4) (v := .int (z2.1 4 j7 8)) hx hb hts in_P hown hK hW (okX4 (aix_lt ej7)) rfl rfl 8 (by decide) t_44 rfl d_X_put_37 ?_
      refine lv_aload_n hx hb d_X_put_40 rfl (lv_at hl 2 rfl) ?_
      refine q_get (L := LX) (kc := 0) (ki := 0) (C := "DeficitNet") (T := T_X) (N := 10) (ci := 0) (v := .ref (ad LX b 3 0)) hx hb hts in_X hown hK hW okX0 rfl rfl 1 (by decide) t_222 rfl d_X_put_41 ?_
      refine lv_iload hx hb d_X_put_44 (lv_at hl 0 rfl) ?_
      obtain ⟨j8, ej8, h⟩ := bnd h
      refine q_aald (t0 := 4) (ty := (.object "DeficitNet$Port")) (kd := 4) (L := LX) (kc := 3) (ki := 0) hx hb hK hW okX3 rfl rfl rfl ej8 d_X_put_46 ?_
      refine q_get (L := LX) (kc := 4) (ki := j8) (C := "DeficitNet$Port") (T := T_P) (N := 14) (ci := 4) (v := .int (z2.1 4 j8 6)) hx hb hts in_P hown hK hW (okX4 (aix_lt ej8)) rfl rfl 6 (by decide) t_40 rfl d_X_put_47 ?_
      refine lv_icmp_lt (tgt := 77) hx hb d_X_put_50 (by decide) (fun hc => ?_) (fun hc => ?_)
      · have h := ite_t h hc
        refine lv_aload_n hx hb d_X_put_77 rfl (lv_at hl 2 rfl) ?_
        refine q_get (L := LX) (kc := 0) (ki := 0) (C := "DeficitNet") (T := T_X) (N := 10) (ci := 0) (v := .ref (ad LX b 3 0)) hx hb hts in_X hown hK hW okX0 rfl rfl 1 (by decide) t_222 rfl d_X_put_78 ?_
        refine lv_iload hx hb d_X_put_81 (lv_at hl 0 rfl) ?_
        obtain ⟨j9, ej9, h⟩ := bnd h
        refine q_aald (t0 := 4) (ty := (.object "DeficitNet$Port")) (kd := 4) (L := LX) (kc := 3) (ki := 0) hx hb hK hW okX3 rfl rfl rfl ej9 d_X_put_83 ?_
        refine lv_astore hx hb d_X_put_84 hl (by decide) rfl (fun ls hl => ?_)
        have hl : lv_has ls 6 [(5, .ref (ad LX b 4 j9)), (4, .int v2), (3, .ref (ad LX b 11 j1)), (0, .ref (ad LX b 0 0)), (1, .int x1), (2, .int x2)] := hl
        refine lv_aload_n hx hb d_X_put_86 rfl (lv_at hl 2 rfl) ?_
        refine lv_iload hx hb d_X_put_87 (lv_at hl 1 rfl) ?_
        refine q_put (L := LX) (kc := 11) (ki := j1) (C := "DeficitNet$Packet") (T := T_K) (N := 7) (ci := 3) hx hb hts in_K ty_K tyok_K nm_K hown hK hW hS (okX11 (aix_lt ej1)) rfl rfl 6 (by decide) t_168 rfl rfl rfl (Nat.le_of_ble_eq_true rfl) rfl d_X_put_89 (fun H locs z10 ez10 hW hS => ?_)
        have h := stM_n h ez10
        refine lv_aload_n hx hb d_X_put_92 rfl (lv_at hl 3 rfl) ?_
        refine lv_aload hx hb d_X_put_93 (lv_at hl 0 rfl) ?_
        refine lv_aload_n hx hb d_X_put_95 rfl (lv_at hl 2 rfl) ?_
        refine q_get (L := LX) (kc := 11) (ki := j1) (C := "DeficitNet$Packet") (T := T_K) (N := 7) (ci := 3) (v := .int (z10.1 11 j1 2)) hx hb hts in_K hown hK hW (okX11 (aix_lt ej1)) rfl rfl 2 (by decide) t_161 rfl d_X_put_96 ?_
        obtain ⟨⟨v11, z11⟩, er11, h⟩ := bnd h
        refine q_callVi (C := "DeficitNet") (As := [.ref (ad LX b 4 j9), .int (z10.1 11 j1 2)]) (rest := []) hx hb hml hown hts hK hW hS (c_X_queuedOf l G b j9 (z10.1 11 j1 2) z10 v11 z11 (aix_lt ej9) er11) f_X_queuedOf t_369 ⟨rfl, rfl⟩ ⟨Nat.le_of_ble_eq_true rfl, Nat.le_of_ble_eq_true rfl⟩ (q_recv (L := LX) (kc := 0) (ki := 0) hK hW okX0 rfl rfl) rfl hl.1 rfl (Nat.le_of_ble_eq_true rfl) d_X_put_99 (fun H locs hW hS => ?_)
        refine lv_if_ne (tgt := 114) hx hb d_X_put_102 (by decide) (fun hc => ?_) (fun hc => ?_)
        · have h := ite_f h hc
          refine lv_aload hx hb d_X_put_114 (lv_at hl 0 rfl) ?_
          refine q_get (L := LX) (kc := 4) (ki := j9) (C := "DeficitNet$Port") (T := T_P) (N := 14) (ci := 4) (v := .ref (ad LX b 5 j9)) hx hb hts in_P hown hK hW (okX4 (aix_lt ej9)) rfl rfl 11 (by decide) t_48 rfl d_X_put_116 ?_
          refine lv_aload hx hb d_X_put_119 (lv_at hl 0 rfl) ?_
          refine q_get (L := LX) (kc := 4) (ki := j9) (C := "DeficitNet$Port") (T := T_P) (N := 14) (ci := 4) (v := .int (z11.1 4 j9 8)) hx hb hts in_P hown hK hW (okX4 (aix_lt ej9)) rfl rfl 8 (by decide) t_44 rfl d_X_put_121 ?_
          refine lv_iload_n hx hb d_X_put_124 rfl (lv_at hl 4 rfl) ?_
          obtain ⟨j12, ej12, h⟩ := bnd h
          refine q_iast (L := LX) (kc := 5) (ki := j9) hx hb hK hW hS (okX5 (aix_lt ej9)) (fun _ => rfl) ej12 d_X_put_125 (fun H locs z13 ez13 hW hS => ?_)
          have h := stM_n h ez13
          refine lv_aload hx hb d_X_put_126 (lv_at hl 0 rfl) ?_
          refine lv_dup hx hb d_X_put_128 rfl ?_
          refine q_get (L := LX) (kc := 4) (ki := j9) (C := "DeficitNet$Port") (T := T_P) (N := 14) (ci := 4) (v := .int (z13.1 4 j9 8)) hx hb hts in_P hown hK hW (okX4 (aix_lt ej9)) rfl rfl 8 (by decide) t_44 rfl d_X_put_129 ?_
          refine lv_iconst (v := (1 : Int32)) hx hb d_X_put_132 (by decide) ?_
          refine lv_iadd hx hb d_X_put_133 ?_
          refine q_put (L := LX) (kc := 4) (ki := j9) (C := "DeficitNet$Port") (T := T_P) (N := 14) (ci := 4) hx hb hts in_P ty_P tyok_P nm_P hown hK hW hS (okX4 (aix_lt ej9)) rfl rfl 8 (by decide) t_44 rfl rfl rfl (Nat.le_of_ble_eq_true rfl) rfl d_X_put_134 (fun H locs z14 ez14 hW hS => ?_)
          have h := stM_n h ez14
          refine lv_aload hx hb d_X_put_137 (lv_at hl 0 rfl) ?_
          refine q_get (L := LX) (kc := 4) (ki := j9) (C := "DeficitNet$Port") (T := T_P) (N := 14) (ci := 4) (v := .int (z14.1 4 j9 7)) hx hb hts in_P hown hK hW (okX4 (aix_lt ej9)) rfl rfl 7 (by decide) t_42 rfl d_X_put_139 ?_
          refine lv_iconst (v := (-1 : Int32)) hx hb d_X_put_142 (by decide) ?_
          refine lv_icmp_ne (tgt := 152) hx hb d_X_put_143 (by decide) (fun hc => ?_) (fun hc => ?_)
          · have h := ite_f h hc
            exact q_vret hx hb hr hlk hK hW hS h d_X_put_152
          · have h := ite_t h hc
            refine lv_aload_n hx hb d_X_put_146 rfl (lv_at hl 3 rfl) ?_
            refine lv_aload hx hb d_X_put_147 (lv_at hl 0 rfl) ?_
            obtain ⟨z15, ez15, h⟩ := bnd h
            refine q_callVv (C := "DeficitNet") (As := [.ref (ad LX b 4 j9)]) (rest := []) hx hb hml hown hts hK hW hS (c_X_choose l G b j9 z14 z15 (aix_lt ej9) ez15) f_X_choose t_377 ⟨rfl, rfl⟩ ⟨Nat.le_of_ble_eq_true rfl, Nat.le_of_ble_eq_true rfl⟩ (q_recv (L := LX) (kc := 0) (ki := 0) hK hW okX0 rfl rfl) rfl hl.1 rfl (Nat.le_of_ble_eq_true rfl) d_X_put_149 (fun H locs hW hS => ?_)
            exact q_vret hx hb hr hlk hK hW hS h d_X_put_152
        · have h := ite_t h hc
          refine lv_aload hx hb d_X_put_105 (lv_at hl 0 rfl) ?_
          refine lv_aload_n hx hb d_X_put_107 rfl (lv_at hl 2 rfl) ?_
          refine q_get (L := LX) (kc := 11) (ki := j1) (C := "DeficitNet$Packet") (T := T_K) (N := 7) (ci := 3) (v := .int (z11.1 11 j1 2)) hx hb hts in_K hown hK hW (okX11 (aix_lt ej1)) rfl rfl 2 (by decide) t_161 rfl d_X_put_108 ?_
          obtain ⟨z16, ez16, h⟩ := bnd h
          refine q_callVv (C := "DeficitNet$Port") (As := [.int (z11.1 11 j1 2)]) (rest := []) hx hb hml hown hts hK hW hS (c_P_append l G b j9 (z11.1 11 j1 2) z11 z16 (aix_lt ej9) ez16) f_P_append t_373 ⟨rfl, rfl⟩ ⟨Nat.le_of_ble_eq_true rfl, Nat.le_of_ble_eq_true rfl⟩ (q_recv (L := LX) (kc := 4) (ki := j9) hK hW (okX4 (aix_lt ej9)) rfl rfl) rfl hl.1 rfl (Nat.le_of_ble_eq_true rfl) d_X_put_111 (fun H locs hW hS => ?_)
          refine lv_aload hx hb d_X_put_114 (lv_at hl 0 rfl) ?_
          refine q_get (L := LX) (kc := 4) (ki := j9) (C := "DeficitNet$Port") (T := T_P) (N := 14) (ci := 4) (v := .ref (ad LX b 5 j9)) hx hb hts in_P hown hK hW (okX4 (aix_lt ej9)) rfl rfl 11 (by decide) t_48 rfl d_X_put_116 ?_
          refine lv_aload hx hb d_X_put_119 (lv_at hl 0 rfl) ?_
          refine q_get (L := LX) (kc := 4) (ki := j9) (C := "DeficitNet$Port") (T := T_P) (N := 14) (ci := 4) (v := .int (z16.1 4 j9 8)) hx hb hts in_P hown hK hW (okX4 (aix_lt ej9)) rfl rfl 8 (by decide) t_44 rfl d_X_put_121 ?_
          refine lv_iload_n hx hb d_X_put_124 rfl (lv_at hl 4 rfl) ?_
          obtain ⟨j17, ej17, h⟩ := bnd h
          refine q_iast (L := LX) (kc := 5) (ki := j9) hx hb hK hW hS (okX5 (aix_lt ej9)) (fun _ => rfl) ej17 d_X_put_125 (fun H locs z18 ez18 hW hS => ?_)
          have h := stM_n h ez18
          refine lv_aload hx hb d_X_put_126 (lv_at hl 0 rfl) ?_
          refine lv_dup hx hb d_X_put_128 rfl ?_
          refine q_get (L := LX) (kc := 4) (ki := j9) (C := "DeficitNet$Port") (T := T_P) (N := 14) (ci := 4) (v := .int (z18.1 4 j9 8)) hx hb hts in_P hown hK hW (okX4 (aix_lt ej9)) rfl rfl 8 (by decide) t_44 rfl d_X_put_129 ?_
          refine lv_iconst (v := (1 : Int32)) hx hb d_X_put_132 (by decide) ?_
          refine lv_iadd hx hb d_X_put_133 ?_
          refine q_put (L := LX) (kc := 4) (ki := j9) (C := "DeficitNet$Port") (T := T_P) (N := 14) (ci := 4) hx hb hts in_P ty_P tyok_P nm_P hown hK hW hS (okX4 (aix_lt ej9)) rfl rfl 8 (by decide) t_44 rfl rfl rfl (Nat.le_of_ble_eq_true rfl) rfl d_X_put_134 (fun H locs z19 ez19 hW hS => ?_)
          have h := stM_n h ez19
          refine lv_aload hx hb d_X_put_137 (lv_at hl 0 rfl) ?_
          refine q_get (L := LX) (kc := 4) (ki := j9) (C := "DeficitNet$Port") (T := T_P) (N := 14) (ci := 4) (v := .int (z19.1 4 j9 7)) hx hb hts in_P hown hK hW (okX4 (aix_lt ej9)) rfl rfl 7 (by decide) t_42 rfl d_X_put_139 ?_
          refine lv_iconst (v := (-1 : Int32)) hx hb d_X_put_142 (by decide) ?_
          refine lv_icmp_ne (tgt := 152) hx hb d_X_put_143 (by decide) (fun hc => ?_) (fun hc => ?_)
          · have h := ite_f h hc
            exact q_vret hx hb hr hlk hK hW hS h d_X_put_152
          · have h := ite_t h hc
            refine lv_aload_n hx hb d_X_put_146 rfl (lv_at hl 3 rfl) ?_
            refine lv_aload hx hb d_X_put_147 (lv_at hl 0 rfl) ?_
            obtain ⟨z20, ez20, h⟩ := bnd h
            refine q_callVv (C := "DeficitNet") (As := [.ref (ad LX b 4 j9)]) (rest := []) hx hb hml hown hts hK hW hS (c_X_choose l G b j9 z19 z20 (aix_lt ej9) ez20) f_X_choose t_377 ⟨rfl, rfl⟩ ⟨Nat.le_of_ble_eq_true rfl, Nat.le_of_ble_eq_true rfl⟩ (q_recv (L := LX) (kc := 0) (ki := 0) hK hW okX0 rfl rfl) rfl hl.1 rfl (Nat.le_of_ble_eq_true rfl) d_X_put_149 (fun H locs hW hS => ?_)
            exact q_vret hx hb hr hlk hK hW hS h d_X_put_152
      · have h := ite_f h hc
        refine lv_aload_n hx hb d_X_put_53 rfl (lv_at hl 1 rfl) ?_
        refine lv_iconst (v := (0 : Int32)) hx hb d_X_put_54 (by decide) ?_
        obtain ⟨_, u21, h⟩ := bnd h
        refine q_put (L := LX) (kc := 11) (ki := j1) (C := "DeficitNet$Packet") (T := T_K) (N := 7) (ci := 3) hx hb hts in_K ty_K tyok_K nm_K hown hK hW hS (okX11 (aix_lt ej1)) rfl rfl 0 (by decide) t_157 rfl (bz_nar (bz_some u21)) (bz_fit (bz_some u21)) (Nat.le_of_ble_eq_true rfl) rfl d_X_put_55 (fun H locs z22 ez22 hW hS => ?_)
        have h := stM_n h ez22
        refine lv_aload_n hx hb d_X_put_58 rfl (lv_at hl 2 rfl) ?_
        refine q_get (L := LX) (kc := 0) (ki := 0) (C := "DeficitNet") (T := T_X) (N := 10) (ci := 0) (v := .ref (ad LX b 8 0)) hx hb hts in_X hown hK hW okX0 rfl rfl 2 (by decide) t_223 rfl d_X_put_59 ?_
        refine lv_aload_n hx hb d_X_put_62 rfl (lv_at hl 1 rfl) ?_
        refine q_get (L := LX) (kc := 11) (ki := j1) (C := "DeficitNet$Packet") (T := T_K) (N := 7) (ci := 3) (v := .int (z22.1 11 j1 2)) hx hb hts in_K hown hK hW (okX11 (aix_lt ej1)) rfl rfl 2 (by decide) t_161 rfl d_X_put_63 ?_
        obtain ⟨j23, ej23, h⟩ := bnd h
        refine q_aald (t0 := 5) (ty := (.object "DeficitNet$Flow")) (kd := 9) (L := LX) (kc := 8) (ki := 0) hx hb hK hW okX8 rfl rfl rfl ej23 d_X_put_66 ?_
        refine lv_dup hx hb d_X_put_67 rfl ?_
        refine q_get (L := LX) (kc := 9) (ki := j23) (C := "DeficitNet$Flow") (T := T_F) (N := 14) (ci := 2) (v := .int (z22.1 9 j23 12)) hx hb hts in_F hown hK hW (okX9 (aix_lt ej23)) rfl rfl 12 (by decide) t_117 rfl d_X_put_68 ?_
        refine lv_iconst (v := (1 : Int32)) hx hb d_X_put_71 (by decide) ?_
        refine lv_iadd hx hb d_X_put_72 ?_
        refine q_put (L := LX) (kc := 9) (ki := j23) (C := "DeficitNet$Flow") (T := T_F) (N := 14) (ci := 2) hx hb hts in_F ty_F tyok_F nm_F hown hK hW hS (okX9 (aix_lt ej23)) rfl rfl 12 (by decide) t_117 rfl rfl rfl (Nat.le_of_ble_eq_true rfl) rfl d_X_put_73 (fun H locs z24 ez24 hW hS => ?_)
        have h := stM_n h ez24
        exact q_vret hx hb hr hlk hK hW hS h d_X_put_76
  · have h := ite_t h hc
    exact q_vret hx hb hr hlk hK hW hS h d_X_put_5
set_option maxHeartbeats 4000000 in
set_option maxRecDepth 100000 in
theorem c_X_setTimer (l : Launch) (G : GG) (b : Nat) (x1 : Int32) (z : Mem) (z0 : Mem) (h : dn_X_setTimer x1 z = some z0) : MtW l y_X_setTimer b_X_setTimer 2 none rm_X_setTimer LX G b [.ref (ad LX b 0 0), .int x1] z (QV LX G b z0) := by
  refine mtW_of (by decide) (Nat.le_of_ble_eq_true rfl) ?_
  intro p e s m args below meth c ls H locs C hW hS hl
  obtain ⟨hx, hb, hml, hr, hown, hts, hlk, hK⟩ := C
  have hl : lv_has ls 2 [(0, .ref (ad LX b 0 0)), (1, .int x1)] := hl
  unfold dn_X_setTimer at h
  refine lv_aload_n hx hb d_X_setTimer_0 rfl (lv_at hl 0 rfl) ?_
  refine q_get (L := LX) (kc := 0) (ki := 0) (C := "DeficitNet") (T := T_X) (N := 10) (ci := 0) (v := .ref (ad LX b 12 0)) hx hb hts in_X hown hK hW okX0 rfl rfl 4 (by decide) t_225 rfl d_X_setTimer_1 ?_
  refine lv_iload_n hx hb d_X_setTimer_4 rfl (lv_at hl 1 rfl) ?_
  refine lv_iconst (v := (4 : Int32)) hx hb d_X_setTimer_5 (by decide) ?_
  refine lv_aload_n hx hb d_X_setTimer_6 rfl (lv_at hl 0 rfl) ?_
  refine q_get (L := LX) (kc := 0) (ki := 0) (C := "DeficitNet") (T := T_X) (N := 10) (ci := 0) (v := .int (z.1 0 0 8)) hx hb hts in_X hown hK hW okX0 rfl rfl 8 (by decide) t_229 rfl d_X_setTimer_7 ?_
  refine lv_aload_n hx hb d_X_setTimer_10 rfl (lv_at hl 0 rfl) ?_
  refine q_get (L := LX) (kc := 0) (ki := 0) (C := "DeficitNet") (T := T_X) (N := 10) (ci := 0) (v := .ref (ad LX b 8 0)) hx hb hts in_X hown hK hW okX0 rfl rfl 2 (by decide) t_223 rfl d_X_setTimer_11 ?_
  refine lv_iload_n hx hb d_X_setTimer_14 rfl (lv_at hl 1 rfl) ?_
  obtain ⟨j1, ej1, h⟩ := bnd h
  refine q_aald (t0 := 5) (ty := (.object "DeficitNet$Flow")) (kd := 9) (L := LX) (kc := 8) (ki := 0) hx hb hK hW okX8 rfl rfl rfl ej1 d_X_setTimer_15 ?_
  refine q_get (L := LX) (kc := 9) (ki := j1) (C := "DeficitNet$Flow") (T := T_F) (N := 14) (ci := 2) (v := .int (z.1 9 j1 5)) hx hb hts in_F hown hK hW (okX9 (aix_lt ej1)) rfl rfl 5 (by decide) t_103 rfl d_X_setTimer_16 ?_
  refine lv_iadd hx hb d_X_setTimer_19 ?_
  obtain ⟨z2, ez2, h⟩ := bnd h
  refine q_callVv (C := "DeficitNet$Agenda") (As := [.int x1, .int (4 : Int32), .int ((z.1 0 0 8) + (z.1 9 j1 5))]) (rest := []) hx hb hml hown hts hK hW hS (c_A_set l G b x1 (4 : Int32) ((z.1 0 0 8) + (z.1 9 j1 5)) z z2 ez2) f_A_set t_305 ⟨rfl, rfl⟩ ⟨Nat.le_of_ble_eq_true rfl, Nat.le_of_ble_eq_true rfl⟩ (q_recv (L := LX) (kc := 12) (ki := 0) hK hW okX12 rfl rfl) rfl hl.1 rfl (Nat.le_of_ble_eq_true rfl) d_X_setTimer_20 (fun H locs hW hS => ?_)
  exact q_vret hx hb hr hlk hK hW hS h d_X_setTimer_23
set_option maxHeartbeats 4000000 in
set_option maxRecDepth 100000 in
theorem w_X_fill_30 {p : Program} {l : Launch} {e : Env} {s : State} {m : MethodId} {args : Array Value} {below : List Frame} {meth : Method} {c : Code} {G : GG} {b : Nat} {z0 : Mem} (C : Cx y_X_fill b_X_fill 5 none p s m args meth c G) {k79 : Mem → Option Mem} 
    (hk79 : ∀  (z : Mem) (ls : Array Slot) (H : Heap) (locs : List Loc), Wd LX G b z H → va_S (rgL LX b) s.heap H locs → lv_has ls 5 [] → k79  z = some z0 → W p l e rm_X_fill s m args below meth c H locs 0 0 (MQ below (QV LX G b z0) args s 0 0 (rgL LX b)) (F0 m 79 ls [])) :
    ∀ (n : Nat) (x1 : Int32) (x2 : Nat) (x3 : Int32) (x4 : Int32) (z : Mem) (ls : Array Slot) (H : Heap) (locs : List Loc), x2 < 6 → Wd LX G b z H → va_S (rgL LX b) s.heap H locs → lv_has ls 5 [(0, .ref (ad LX b 0 0)), (1, .int x1), (2, .ref (ad LX b 9 x2)), (3, .int x3), (4, .int x4)] → dn_X_fill_30 k79 n x1 x2 x3 x4 z = some z0 → W p l e rm_X_fill s m args below meth c H locs 0 0 (MQ below (QV LX G b z0) args s 0 0 (rgL LX b)) (F0 m 30 ls []) := by
  obtain ⟨hx, hb, hml, hr, hown, hts, hlk, hK⟩ := C
  intro n
  induction n with
  | zero =>
    intro x1 x2 x3 x4 z ls H locs qx2 hW hS hl h
    cases h
  | succ n ih =>
    intro x1 x2 x3 x4 z ls H locs qx2 hW hS hl h
    rw [dn_X_fill_30] at h
    refine lv_iload hx hb d_X_fill_30 (lv_at hl 4 rfl) ?_
    refine lv_iload_n hx hb d_X_fill_32 rfl (lv_at hl 3 rfl) ?_
    refine lv_icmp_ge (tgt := 79) hx hb d_X_fill_33 (by decide) (fun hc => ?_) (fun hc => ?_)
    · have h := ite_t h hc
      exact hk79  z ls H locs  hW hS (lv_sub hl [] rfl) h
    · have h := ite_f h hc
      refine lv_aload_n hx hb d_X_fill_36 rfl (lv_at hl 0 rfl) ?_
      refine lv_iload_n hx hb d_X_fill_37 rfl (lv_at hl 1 rfl) ?_
      obtain ⟨⟨v3, z3⟩, er3, h⟩ := bnd h
      refine q_callVi (C := "DeficitNet") (As := [.int x1]) (rest := []) hx hb hml hown hts hK hW hS (c_X_hasTimer l G b x1 z v3 z3 er3) f_X_hasTimer t_345 ⟨rfl, rfl⟩ ⟨Nat.le_of_ble_eq_true rfl, Nat.le_of_ble_eq_true rfl⟩ (q_recv (L := LX) (kc := 0) (ki := 0) hK hW okX0 rfl rfl) rfl hl.1 rfl (Nat.le_of_ble_eq_true rfl) d_X_fill_38 (fun H locs hW hS => ?_)
      refine lv_if_ne (tgt := 49) hx hb d_X_fill_41 (by decide) (fun hc => ?_) (fun hc => ?_)
      · have h := ite_f h hc
        refine lv_aload_n hx hb d_X_fill_49 rfl (lv_at hl 0 rfl) ?_
        refine lv_aload_n hx hb d_X_fill_50 rfl (lv_at hl 0 rfl) ?_
        refine lv_iload_n hx hb d_X_fill_51 rfl (lv_at hl 1 rfl) ?_
        refine lv_iload hx hb d_X_fill_52 (lv_at hl 4 rfl) ?_
        refine lv_iconst (v := (0 : Int32)) hx hb d_X_fill_54 (by decide) ?_
        obtain ⟨⟨v4, z4⟩, er4, h⟩ := bnd h
        refine q_callVi (C := "DeficitNet") (As := [.int x1, .int x4, .int (0 : Int32)]) (rest := [.ref (ad LX b 0 0)]) hx hb hml hown hts hK hW hS (c_X_make l G b x1 x4 (0 : Int32) z3 v4 z4 er4) f_X_make t_353 ⟨rfl, rfl⟩ ⟨Nat.le_of_ble_eq_true rfl, Nat.le_of_ble_eq_true rfl⟩ (q_recv (L := LX) (kc := 0) (ki := 0) hK hW okX0 rfl rfl) rfl hl.1 rfl (Nat.le_of_ble_eq_true rfl) d_X_fill_55 (fun H locs hW hS => ?_)
        refine lv_aload_n hx hb d_X_fill_58 rfl (lv_at hl 2 rfl) ?_
        refine q_get (L := LX) (kc := 9) (ki := x2) (C := "DeficitNet$Flow") (T := T_F) (N := 14) (ci := 2) (v := .int (z4.1 9 x2 0)) hx hb hts in_F hown hK hW (okX9 qx2) rfl rfl 0 (by decide) t_92 rfl d_X_fill_59 ?_
        obtain ⟨z5, ez5, h⟩ := bnd h
        refine q_callVv (C := "DeficitNet") (As := [.int v4, .int (z4.1 9 x2 0)]) (rest := []) hx hb hml hown hts hK hW hS (c_X_put l G b v4 (z4.1 9 x2 0) z4 z5 ez5) f_X_put t_361 ⟨rfl, rfl⟩ ⟨Nat.le_of_ble_eq_true rfl, Nat.le_of_ble_eq_true rfl⟩ (q_recv (L := LX) (kc := 0) (ki := 0) hK hW okX0 rfl rfl) rfl hl.1 rfl (Nat.le_of_ble_eq_true rfl) d_X_fill_62 (fun H locs hW hS => ?_)
        refine lv_aload_n hx hb d_X_fill_65 rfl (lv_at hl 2 rfl) ?_
        refine lv_iload hx hb d_X_fill_66 (lv_at hl 4 rfl) ?_
        refine lv_iconst (v := (1 : Int32)) hx hb d_X_fill_68 (by decide) ?_
        refine lv_iadd hx hb d_X_fill_69 ?_
        refine q_put (L := LX) (kc := 9) (ki := x2) (C := "DeficitNet$Flow") (T := T_F) (N := 14) (ci := 2) hx hb hts in_F ty_F tyok_F nm_F hown hK hW hS (okX9 qx2) rfl rfl 8 (by decide) t_109 rfl rfl rfl (Nat.le_of_ble_eq_true rfl) rfl d_X_fill_70 (fun H locs z6 ez6 hW hS => ?_)
        have h := stM_n h ez6
        refine lv_iinc (k := 4) (v := (x4 + (1 : Int32))) hx hb d_X_fill_73 hl rfl rfl (by decide) rfl (fun ls hl => ?_)
        have hl : lv_has ls 5 [(4, .int (x4 + (1 : Int32))), (0, .ref (ad LX b 0 0)), (1, .int x1), (2, .ref (ad LX b 9 x2)), (3, .int x3)] := hl
        refine lv_goto (tgt := 30) hx hb d_X_fill_76 (by decide) ?_
        exact ih x1 x2 x3 (x4 + (1 : Int32)) z6 ls H locs qx2 hW hS (lv_sub hl [1, 2, 3, 4, 0] rfl) h
      · have h := ite_t h hc
        refine lv_aload_n hx hb d_X_fill_44 rfl (lv_at hl 0 rfl) ?_
        refine lv_iload_n hx hb d_X_fill_45 rfl (lv_at hl 1 rfl) ?_
        obtain ⟨z7, ez7, h⟩ := bnd h
        refine q_callVv (C := "DeficitNet") (As := [.int x1]) (rest := []) hx hb hml hown hts hK hW hS (c_X_setTimer l G b x1 z3 z7 ez7) f_X_setTimer t_349 ⟨rfl, rfl⟩ ⟨Nat.le_of_ble_eq_true rfl, Nat.le_of_ble_eq_true rfl⟩ (q_recv (L := LX) (kc := 0) (ki := 0) hK hW okX0 rfl rfl) rfl hl.1 rfl (Nat.le_of_ble_eq_true rfl) d_X_fill_46 (fun H locs hW hS => ?_)
        refine lv_aload_n hx hb d_X_fill_49 rfl (lv_at hl 0 rfl) ?_
        refine lv_aload_n hx hb d_X_fill_50 rfl (lv_at hl 0 rfl) ?_
        refine lv_iload_n hx hb d_X_fill_51 rfl (lv_at hl 1 rfl) ?_
        refine lv_iload hx hb d_X_fill_52 (lv_at hl 4 rfl) ?_
        refine lv_iconst (v := (0 : Int32)) hx hb d_X_fill_54 (by decide) ?_
        obtain ⟨⟨v8, z8⟩, er8, h⟩ := bnd h
        refine q_callVi (C := "DeficitNet") (As := [.int x1, .int x4, .int (0 : Int32)]) (rest := [.ref (ad LX b 0 0)]) hx hb hml hown hts hK hW hS (c_X_make l G b x1 x4 (0 : Int32) z7 v8 z8 er8) f_X_make t_353 ⟨rfl, rfl⟩ ⟨Nat.le_of_ble_eq_true rfl, Nat.le_of_ble_eq_true rfl⟩ (q_recv (L := LX) (kc := 0) (ki := 0) hK hW okX0 rfl rfl) rfl hl.1 rfl (Nat.le_of_ble_eq_true rfl) d_X_fill_55 (fun H locs hW hS => ?_)
        refine lv_aload_n hx hb d_X_fill_58 rfl (lv_at hl 2 rfl) ?_
        refine q_get (L := LX) (kc := 9) (ki := x2) (C := "DeficitNet$Flow") (T := T_F) (N := 14) (ci := 2) (v := .int (z8.1 9 x2 0)) hx hb hts in_F hown hK hW (okX9 qx2) rfl rfl 0 (by decide) t_92 rfl d_X_fill_59 ?_
        obtain ⟨z9, ez9, h⟩ := bnd h
        refine q_callVv (C := "DeficitNet") (As := [.int v8, .int (z8.1 9 x2 0)]) (rest := []) hx hb hml hown hts hK hW hS (c_X_put l G b v8 (z8.1 9 x2 0) z8 z9 ez9) f_X_put t_361 ⟨rfl, rfl⟩ ⟨Nat.le_of_ble_eq_true rfl, Nat.le_of_ble_eq_true rfl⟩ (q_recv (L := LX) (kc := 0) (ki := 0) hK hW okX0 rfl rfl) rfl hl.1 rfl (Nat.le_of_ble_eq_true rfl) d_X_fill_62 (fun H locs hW hS => ?_)
        refine lv_aload_n hx hb d_X_fill_65 rfl (lv_at hl 2 rfl) ?_
        refine lv_iload hx hb d_X_fill_66 (lv_at hl 4 rfl) ?_
        refine lv_iconst (v := (1 : Int32)) hx hb d_X_fill_68 (by decide) ?_
        refine lv_iadd hx hb d_X_fill_69 ?_
        refine q_put (L := LX) (kc := 9) (ki := x2) (C := "DeficitNet$Flow") (T := T_F) (N := 14) (ci := 2) hx hb hts in_F ty_F tyok_F nm_F hown hK hW hS (okX9 qx2) rfl rfl 8 (by decide) t_109 rfl rfl rfl (Nat.le_of_ble_eq_true rfl) rfl d_X_fill_70 (fun H locs z10 ez10 hW hS => ?_)
        have h := stM_n h ez10
        refine lv_iinc (k := 4) (v := (x4 + (1 : Int32))) hx hb d_X_fill_73 hl rfl rfl (by decide) rfl (fun ls hl => ?_)
        have hl : lv_has ls 5 [(4, .int (x4 + (1 : Int32))), (0, .ref (ad LX b 0 0)), (1, .int x1), (2, .ref (ad LX b 9 x2)), (3, .int x3)] := hl
        refine lv_goto (tgt := 30) hx hb d_X_fill_76 (by decide) ?_
        exact ih x1 x2 x3 (x4 + (1 : Int32)) z10 ls H locs qx2 hW hS (lv_sub hl [1, 2, 3, 4, 0] rfl) h
set_option maxHeartbeats 4000000 in
set_option maxRecDepth 100000 in
theorem c_X_fill (l : Launch) (G : GG) (b : Nat) (x1 : Int32) (z : Mem) (z0 : Mem) (h : dn_X_fill x1 z = some z0) : MtW l y_X_fill b_X_fill 5 none rm_X_fill LX G b [.ref (ad LX b 0 0), .int x1] z (QV LX G b z0) := by
  refine mtW_of (by decide) (Nat.le_of_ble_eq_true rfl) ?_
  intro p e s m args below meth c ls H locs C hW hS hl
  obtain ⟨hx, hb, hml, hr, hown, hts, hlk, hK⟩ := C
  have hl : lv_has ls 5 [(0, .ref (ad LX b 0 0)), (1, .int x1)] := hl
  unfold dn_X_fill at h
  refine lv_aload_n hx hb d_X_fill_0 rfl (lv_at hl 0 rfl) ?_
  refine q_get (L := LX) (kc := 0) (ki := 0) (C := "DeficitNet") (T := T_X) (N := 10) (ci := 0) (v := .ref (ad LX b 8 0)) hx hb hts in_X hown hK hW okX0 rfl rfl 2 (by decide) t_223 rfl d_X_fill_1 ?_
  refine lv_iload_n hx hb d_X_fill_4 rfl (lv_at hl 1 rfl) ?_
  obtain ⟨j1, ej1, h⟩ := bnd h
  refine q_aald (t0 := 5) (ty := (.object "DeficitNet$Flow")) (kd := 9) (L := LX) (kc := 8) (ki := 0) hx hb hK hW okX8 rfl rfl rfl ej1 d_X_fill_5 ?_
  refine lv_astore_n hx hb d_X_fill_6 rfl hl (by decide) rfl (fun ls hl => ?_)
  have hl : lv_has ls 5 [(2, .ref (ad LX b 9 j1)), (0, .ref (ad LX b 0 0)), (1, .int x1)] := hl
  refine lv_aload_n hx hb d_X_fill_7 rfl (lv_at hl 0 rfl) ?_
  refine q_get (L := LX) (kc := 9) (ki := j1) (C := "DeficitNet$Flow") (T := T_F) (N := 14) (ci := 2) (v := .int (z.1 9 j1 7)) hx hb hts in_F hown hK hW (okX9 (aix_lt ej1)) rfl rfl 7 (by decide) t_107 rfl d_X_fill_8 ?_
  refine lv_aload_n hx hb d_X_fill_11 rfl (lv_at hl 0 rfl) ?_
  refine q_get (L := LX) (kc := 9) (ki := j1) (C := "DeficitNet$Flow") (T := T_F) (N := 14) (ci := 2) (v := .int (z.1 9 j1 4)) hx hb hts in_F hown hK hW (okX9 (aix_lt ej1)) rfl rfl 4 (by decide) t_101 rfl d_X_fill_12 ?_
  refine lv_iadd hx hb d_X_fill_15 ?_
  refine lv_aload_n hx hb d_X_fill_16 rfl (lv_at hl 0 rfl) ?_
  refine q_get (L := LX) (kc := 9) (ki := j1) (C := "DeficitNet$Flow") (T := T_F) (N := 14) (ci := 2) (v := .int (z.1 9 j1 2)) hx hb hts in_F hown hK hW (okX9 (aix_lt ej1)) rfl rfl 2 (by decide) t_97 rfl d_X_fill_17 ?_
  obtain ⟨v2, ev2, h⟩ := bnd h
  refine q_mmin hx hb (hml.trans hl.1.symm) hown hts f_M_min t_342 (Nat.le_of_ble_eq_true rfl) (Nat.le_of_ble_eq_true rfl) ev2 d_X_fill_20 ?_
  refine lv_istore_n hx hb d_X_fill_23 rfl hl (by decide) rfl (fun ls hl => ?_)
  have hl : lv_has ls 5 [(3, .int v2), (2, .ref (ad LX b 9 j1)), (0, .ref (ad LX b 0 0)), (1, .int x1)] := hl
  refine lv_aload_n hx hb d_X_fill_24 rfl (lv_at hl 1 rfl) ?_
  refine q_get (L := LX) (kc := 9) (ki := j1) (C := "DeficitNet$Flow") (T := T_F) (N := 14) (ci := 2) (v := .int (z.1 9 j1 8)) hx hb hts in_F hown hK hW (okX9 (aix_lt ej1)) rfl rfl 8 (by decide) t_109 rfl d_X_fill_25 ?_
  refine lv_istore hx hb d_X_fill_28 hl (by decide) rfl (fun ls hl => ?_)
  have hl : lv_has ls 5 [(4, .int (z.1 9 j1 8)), (3, .int v2), (2, .ref (ad LX b 9 j1)), (0, .ref (ad LX b 0 0)), (1, .int x1)] := hl
  refine w_X_fill_30 ⟨hx, hb, hml, hr, hown, hts, hlk, hK⟩ (fun z11 ls H locs  hW hS hl h => ?_) FU x1 j1 v2 (z.1 9 j1 8) z ls H locs (aix_lt ej1) hW hS (lv_sub hl [3, 4, 2, 1, 0] rfl) h
  · exact q_vret hx hb hr hlk hK hW hS h d_X_fill_79
set_option maxHeartbeats 4000000 in
set_option maxRecDepth 100000 in
theorem c_X_start (l : Launch) (G : GG) (b : Nat) (x1 : Int32) (z : Mem) (z0 : Mem) (h : dn_X_start x1 z = some z0) : MtW l y_X_start b_X_start 2 none rm_X_start LX G b [.ref (ad LX b 0 0), .int x1] z (QV LX G b z0) := by
  refine mtW_of (by decide) (Nat.le_of_ble_eq_true rfl) ?_
  intro p e s m args below meth c ls H locs C hW hS hl
  obtain ⟨hx, hb, hml, hr, hown, hts, hlk, hK⟩ := C
  have hl : lv_has ls 2 [(0, .ref (ad LX b 0 0)), (1, .int x1)] := hl
  unfold dn_X_start at h
  refine lv_aload_n hx hb d_X_start_0 rfl (lv_at hl 0 rfl) ?_
  refine lv_iconst (v := (1 : Int32)) hx hb d_X_start_1 (by decide) ?_
  refine lv_iload_n hx hb d_X_start_2 rfl (lv_at hl 1 rfl) ?_
  refine lv_aload_n hx hb d_X_start_3 rfl (lv_at hl 0 rfl) ?_
  refine q_get (L := LX) (kc := 0) (ki := 0) (C := "DeficitNet") (T := T_X) (N := 10) (ci := 0) (v := .ref (ad LX b 8 0)) hx hb hts in_X hown hK hW okX0 rfl rfl 2 (by decide) t_223 rfl d_X_start_4 ?_
  refine lv_iload_n hx hb d_X_start_7 rfl (lv_at hl 1 rfl) ?_
  obtain ⟨j1, ej1, h⟩ := bnd h
  refine q_aald (t0 := 5) (ty := (.object "DeficitNet$Flow")) (kd := 9) (L := LX) (kc := 8) (ki := 0) hx hb hK hW okX8 rfl rfl rfl ej1 d_X_start_8 ?_
  refine q_get (L := LX) (kc := 9) (ki := j1) (C := "DeficitNet$Flow") (T := T_F) (N := 14) (ci := 2) (v := .int (z.1 9 j1 8)) hx hb hts in_F hown hK hW (okX9 (aix_lt ej1)) rfl rfl 8 (by decide) t_109 rfl d_X_start_9 ?_
  obtain ⟨z2, ez2, h⟩ := bnd h
  refine q_callVv (C := "DeficitNet") (As := [.int (1 : Int32), .int x1, .int (z.1 9 j1 8)]) (rest := []) hx hb hml hown hts hK hW hS (c_X_remember l G b (1 : Int32) x1 (z.1 9 j1 8) z z2 ez2) f_X_remember t_329 ⟨rfl, rfl⟩ ⟨Nat.le_of_ble_eq_true rfl, Nat.le_of_ble_eq_true rfl⟩ (q_recv (L := LX) (kc := 0) (ki := 0) hK hW okX0 rfl rfl) rfl hl.1 rfl (Nat.le_of_ble_eq_true rfl) d_X_start_12 (fun H locs hW hS => ?_)
  refine lv_aload_n hx hb d_X_start_15 rfl (lv_at hl 0 rfl) ?_
  refine lv_iload_n hx hb d_X_start_16 rfl (lv_at hl 1 rfl) ?_
  obtain ⟨z3, ez3, h⟩ := bnd h
  refine q_callVv (C := "DeficitNet") (As := [.int x1]) (rest := []) hx hb hml hown hts hK hW hS (c_X_fill l G b x1 z2 z3 ez3) f_X_fill t_338 ⟨rfl, rfl⟩ ⟨Nat.le_of_ble_eq_true rfl, Nat.le_of_ble_eq_true rfl⟩ (q_recv (L := LX) (kc := 0) (ki := 0) hK hW okX0 rfl rfl) rfl hl.1 rfl (Nat.le_of_ble_eq_true rfl) d_X_start_17 (fun H locs hW hS => ?_)
  exact q_vret hx hb hr hlk hK hW hS h d_X_start_20
set_option maxHeartbeats 4000000 in
set_option maxRecDepth 100000 in
theorem c_K_label (l : Launch) (G : GG) (b : Nat) (x0 : Nat) (z : Mem) (r0 : Int32) (z0 : Mem) (qx0 : x0 < 64) (h : dn_K_label x0 z = some (r0, z0)) : MtW l y_K_label b_K_label 1 (some .int) rm_K_label LX G b [.ref (ad LX b 11 x0)] z (QI LX G b r0 z0) := by
  refine mtW_of (by decide) (Nat.le_of_ble_eq_true rfl) ?_
  intro p e s m args below meth c ls H locs C hW hS hl
  obtain ⟨hx, hb, hml, hr, hown, hts, hlk, hK⟩ := C
  have hl : lv_has ls 1 [(0, .ref (ad LX b 11 x0))] := hl
  unfold dn_K_label at h
  refine lv_aload_n hx hb d_K_label_0 rfl (lv_at hl 0 rfl) ?_
  refine q_get (L := LX) (kc := 11) (ki := x0) (C := "DeficitNet$Packet") (T := T_K) (N := 7) (ci := 3) (v := .int (z.1 11 x0 1)) hx hb hts in_K hown hK hW (okX11 qx0) rfl rfl 1 (by decide) t_158 rfl d_K_label_1 ?_
  refine lv_if_eq (tgt := 18) hx hb d_K_label_4 (by decide) (fun hc => ?_) (fun hc => ?_)
  · have h := ite_t h hc
    refine lv_aload_n hx hb d_K_label_18 rfl (lv_at hl 0 rfl) ?_
    refine q_get (L := LX) (kc := 11) (ki := x0) (C := "DeficitNet$Packet") (T := T_K) (N := 7) (ci := 3) (v := .int (z.1 11 x0 3)) hx hb hts in_K hown hK hW (okX11 qx0) rfl rfl 3 (by decide) t_162 rfl d_K_label_19 ?_
    exact q_iret hx hb hr hlk hK hW hS h d_K_label_22
  · have h := ite_f h hc
    refine lv_aload_n hx hb d_K_label_7 rfl (lv_at hl 0 rfl) ?_
    refine q_get (L := LX) (kc := 11) (ki := x0) (C := "DeficitNet$Packet") (T := T_K) (N := 7) (ci := 3) (v := .int (z.1 11 x0 3)) hx hb hts in_K hown hK hW (okX11 qx0) rfl rfl 3 (by decide) t_162 rfl d_K_label_8 ?_
    refine lv_sipush (v := (128 : Int32)) hx hb d_K_label_11 (by decide) ?_
    refine lv_iadd hx hb d_K_label_14 ?_
    refine lv_goto (tgt := 22) hx hb d_K_label_15 (by decide) ?_
    exact q_iret hx hb hr hlk hK hW hS h d_K_label_22
set_option maxHeartbeats 4000000 in
set_option maxRecDepth 100000 in
theorem c_X_leave (l : Launch) (G : GG) (b : Nat) (x1 : Int32) (z : Mem) (z0 : Mem) (h : dn_X_leave x1 z = some z0) : MtW l y_X_leave b_X_leave 4 none rm_X_leave LX G b [.ref (ad LX b 0 0), .int x1] z (QV LX G b z0) := by
  refine mtW_of (by decide) (Nat.le_of_ble_eq_true rfl) ?_
  intro p e s m args below meth c ls H locs C hW hS hl
  obtain ⟨hx, hb, hml, hr, hown, hts, hlk, hK⟩ := C
  have hl : lv_has ls 4 [(0, .ref (ad LX b 0 0)), (1, .int x1)] := hl
  unfold dn_X_leave at h
  refine lv_aload_n hx hb d_X_leave_0 rfl (lv_at hl 0 rfl) ?_
  refine q_get (L := LX) (kc := 0) (ki := 0) (C := "DeficitNet") (T := T_X) (N := 10) (ci := 0) (v := .ref (ad LX b 10 0)) hx hb hts in_X hown hK hW okX0 rfl rfl 3 (by decide) t_224 rfl d_X_leave_1 ?_
  refine lv_iload_n hx hb d_X_leave_4 rfl (lv_at hl 1 rfl) ?_
  obtain ⟨j1, ej1, h⟩ := bnd h
  refine q_aald (t0 := 6) (ty := (.object "DeficitNet$Packet")) (kd := 11) (L := LX) (kc := 10) (ki := 0) hx hb hK hW okX10 rfl rfl rfl ej1 d_X_leave_5 ?_
  refine lv_astore_n hx hb d_X_leave_6 rfl hl (by decide) rfl (fun ls hl => ?_)
  have hl : lv_has ls 4 [(2, .ref (ad LX b 11 j1)), (0, .ref (ad LX b 0 0)), (1, .int x1)] := hl
  refine lv_aload_n hx hb d_X_leave_7 rfl (lv_at hl 1 rfl) ?_
  refine q_get (L := LX) (kc := 0) (ki := 0) (C := "DeficitNet") (T := T_X) (N := 10) (ci := 0) (v := .ref (ad LX b 3 0)) hx hb hts in_X hown hK hW okX0 rfl rfl 1 (by decide) t_222 rfl d_X_leave_8 ?_
  refine lv_aload_n hx hb d_X_leave_11 rfl (lv_at hl 0 rfl) ?_
  refine q_get (L := LX) (kc := 11) (ki := j1) (C := "DeficitNet$Packet") (T := T_K) (N := 7) (ci := 3) (v := .int (z.1 11 j1 6)) hx hb hts in_K hown hK hW (okX11 (aix_lt ej1)) rfl rfl 6 (by decide) t_168 rfl d_X_leave_12 ?_
  obtain ⟨j2, ej2, h⟩ := bnd h
  refine q_aald (t0 := 4) (ty := (.object "DeficitNet$Port")) (kd := 4) (L := LX) (kc := 3) (ki := 0) hx hb hK hW okX3 rfl rfl rfl ej2 d_X_leave_15 ?_
  refine lv_astore_n hx hb d_X_leave_16 rfl hl (by decide) rfl (fun ls hl => ?_)
  have hl : lv_has ls 4 [(3, .ref (ad LX b 4 j2)), (2, .ref (ad LX b 11 j1)), (0, .ref (ad LX b 0 0)), (1, .int x1)] := hl
  refine lv_aload_n hx hb d_X_leave_17 rfl (lv_at hl 2 rfl) ?_
  refine lv_iconst (v := (2 : Int32)) hx hb d_X_leave_18 (by decide) ?_
  refine lv_aload_n hx hb d_X_leave_19 rfl (lv_at hl 1 rfl) ?_
  refine q_get (L := LX) (kc := 11) (ki := j1) (C := "DeficitNet$Packet") (T := T_K) (N := 7) (ci := 3) (v := .int (z.1 11 j1 6)) hx hb hts in_K hown hK hW (okX11 (aix_lt ej1)) rfl rfl 6 (by decide) t_168 rfl d_X_leave_20 ?_
  refine lv_aload_n hx hb d_X_leave_23 rfl (lv_at hl 1 rfl) ?_
  obtain ⟨⟨v3, z3⟩, er3, h⟩ := bnd h
  refine q_callVi (C := "DeficitNet$Packet") (As := []) (rest := [.int (z.1 11 j1 6), .int (2 : Int32), .ref (ad LX b 0 0)]) hx hb hml hown hts hK hW hS (c_K_label l G b j1 z v3 z3 (aix_lt ej1) er3) f_K_label t_402 ⟨rfl, rfl⟩ ⟨Nat.le_of_ble_eq_true rfl, Nat.le_of_ble_eq_true rfl⟩ (q_recv (L := LX) (kc := 11) (ki := j1) hK hW (okX11 (aix_lt ej1)) rfl rfl) rfl hl.1 rfl (Nat.le_of_ble_eq_true rfl) d_X_leave_24 (fun H locs hW hS => ?_)
  obtain ⟨z4, ez4, h⟩ := bnd h
  refine q_callVv (C := "DeficitNet") (As := [.int (2 : Int32), .int (z.1 11 j1 6), .int v3]) (rest := []) hx hb hml hown hts hK hW hS (c_X_remember l G b (2 : Int32) (z.1 11 j1 6) v3 z3 z4 ez4) f_X_remember t_329 ⟨rfl, rfl⟩ ⟨Nat.le_of_ble_eq_true rfl, Nat.le_of_ble_eq_true rfl⟩ (q_recv (L := LX) (kc := 0) (ki := 0) hK hW okX0 rfl rfl) rfl hl.1 rfl (Nat.le_of_ble_eq_true rfl) d_X_leave_27 (fun H locs hW hS => ?_)
  refine lv_aload_n hx hb d_X_leave_30 rfl (lv_at hl 0 rfl) ?_
  refine lv_iconst (v := (-1 : Int32)) hx hb d_X_leave_31 (by decide) ?_
  refine q_put (L := LX) (kc := 4) (ki := j2) (C := "DeficitNet$Port") (T := T_P) (N := 14) (ci := 4) hx hb hts in_P ty_P tyok_P nm_P hown hK hW hS (okX4 (aix_lt ej2)) rfl rfl 7 (by decide) t_42 rfl rfl rfl (Nat.le_of_ble_eq_true rfl) rfl d_X_leave_32 (fun H locs z5 ez5 hW hS => ?_)
  have h := stM_n h ez5
  refine lv_aload_n hx hb d_X_leave_35 rfl (lv_at hl 2 rfl) ?_
  refine q_get (L := LX) (kc := 0) (ki := 0) (C := "DeficitNet") (T := T_X) (N := 10) (ci := 0) (v := .ref (ad LX b 12 0)) hx hb hts in_X hown hK hW okX0 rfl rfl 4 (by decide) t_225 rfl d_X_leave_36 ?_
  refine lv_bipush (v := (6 : Int32)) hx hb d_X_leave_39 (by decide) ?_
  refine lv_iload_n hx hb d_X_leave_41 rfl (lv_at hl 3 rfl) ?_
  refine lv_iadd hx hb d_X_leave_42 ?_
  refine lv_iconst (v := (3 : Int32)) hx hb d_X_leave_43 (by decide) ?_
  refine lv_aload_n hx hb d_X_leave_44 rfl (lv_at hl 2 rfl) ?_
  refine q_get (L := LX) (kc := 0) (ki := 0) (C := "DeficitNet") (T := T_X) (N := 10) (ci := 0) (v := .int (z5.1 0 0 8)) hx hb hts in_X hown hK hW okX0 rfl rfl 8 (by decide) t_229 rfl d_X_leave_45 ?_
  refine lv_aload_n hx hb d_X_leave_48 rfl (lv_at hl 0 rfl) ?_
  refine q_get (L := LX) (kc := 4) (ki := j2) (C := "DeficitNet$Port") (T := T_P) (N := 14) (ci := 4) (v := .int (z5.1 4 j2 4)) hx hb hts in_P hown hK hW (okX4 (aix_lt ej2)) rfl rfl 4 (by decide) t_36 rfl d_X_leave_49 ?_
  refine lv_iadd hx hb d_X_leave_52 ?_
  obtain ⟨z6, ez6, h⟩ := bnd h
  refine q_callVv (C := "DeficitNet$Agenda") (As := [.int ((6 : Int32) + x1), .int (3 : Int32), .int ((z5.1 0 0 8) + (z5.1 4 j2 4))]) (rest := []) hx hb hml hown hts hK hW hS (c_A_set l G b ((6 : Int32) + x1) (3 : Int32) ((z5.1 0 0 8) + (z5.1 4 j2 4)) z5 z6 ez6) f_A_set t_305 ⟨rfl, rfl⟩ ⟨Nat.le_of_ble_eq_true rfl, Nat.le_of_ble_eq_true rfl⟩ (q_recv (L := LX) (kc := 12) (ki := 0) hK hW okX12 rfl rfl) rfl hl.1 rfl (Nat.le_of_ble_eq_true rfl) d_X_leave_53 (fun H locs hW hS => ?_)
  refine lv_aload_n hx hb d_X_leave_56 rfl (lv_at hl 0 rfl) ?_
  refine q_get (L := LX) (kc := 4) (ki := j2) (C := "DeficitNet$Port") (T := T_P) (N := 14) (ci := 4) (v := .int (z6.1 4 j2 8)) hx hb hts in_P hown hK hW (okX4 (aix_lt ej2)) rfl rfl 8 (by decide) t_44 rfl d_X_leave_57 ?_
  refine lv_if_le (tgt := 68) hx hb d_X_leave_60 (by decide) (fun hc => ?_) (fun hc => ?_)
  · have h := ite_t h hc
    exact q_vret hx hb hr hlk hK hW hS h d_X_leave_68
  · have h := ite_f h hc
    refine lv_aload_n hx hb d_X_leave_63 rfl (lv_at hl 2 rfl) ?_
    refine lv_aload_n hx hb d_X_leave_64 rfl (lv_at hl 0 rfl) ?_
    obtain ⟨z7, ez7, h⟩ := bnd h
    refine q_callVv (C := "DeficitNet") (As := [.ref (ad LX b 4 j2)]) (rest := []) hx hb hml hown hts hK hW hS (c_X_choose l G b j2 z6 z7 (aix_lt ej2) ez7) f_X_choose t_377 ⟨rfl, rfl⟩ ⟨Nat.le_of_ble_eq_true rfl, Nat.le_of_ble_eq_true rfl⟩ (q_recv (L := LX) (kc := 0) (ki := 0) hK hW okX0 rfl rfl) rfl hl.1 rfl (Nat.le_of_ble_eq_true rfl) d_X_leave_65 (fun H locs hW hS => ?_)
    exact q_vret hx hb hr hlk hK hW hS h d_X_leave_68
set_option maxHeartbeats 4000000 in
set_option maxRecDepth 100000 in
theorem c_X_moveBase (l : Launch) (G : GG) (b : Nat) (x1 : Int32) (x2 : Int32) (z : Mem) (z0 : Mem) (h : dn_X_moveBase x1 x2 z = some z0) : MtW l y_X_moveBase b_X_moveBase 4 none rm_X_moveBase LX G b [.ref (ad LX b 0 0), .int x1, .int x2] z (QV LX G b z0) := by
  refine mtW_of (by decide) (Nat.le_of_ble_eq_true rfl) ?_
  intro p e s m args below meth c ls H locs C hW hS hl
  obtain ⟨hx, hb, hml, hr, hown, hts, hlk, hK⟩ := C
  have hl : lv_has ls 4 [(0, .ref (ad LX b 0 0)), (1, .int x1), (2, .int x2)] := hl
  unfold dn_X_moveBase at h
  refine lv_aload_n hx hb d_X_moveBase_0 rfl (lv_at hl 0 rfl) ?_
  refine q_get (L := LX) (kc := 0) (ki := 0) (C := "DeficitNet") (T := T_X) (N := 10) (ci := 0) (v := .ref (ad LX b 8 0)) hx hb hts in_X hown hK hW okX0 rfl rfl 2 (by decide) t_223 rfl d_X_moveBase_1 ?_
  refine lv_iload_n hx hb d_X_moveBase_4 rfl (lv_at hl 1 rfl) ?_
  obtain ⟨j1, ej1, h⟩ := bnd h
  refine q_aald (t0 := 5) (ty := (.object "DeficitNet$Flow")) (kd := 9) (L := LX) (kc := 8) (ki := 0) hx hb hK hW okX8 rfl rfl rfl ej1 d_X_moveBase_5 ?_
  refine lv_astore_n hx hb d_X_moveBase_6 rfl hl (by decide) rfl (fun ls hl => ?_)
  have hl : lv_has ls 4 [(3, .ref (ad LX b 9 j1)), (0, .ref (ad LX b 0 0)), (1, .int x1), (2, .int x2)] := hl
  refine lv_aload_n hx hb d_X_moveBase_7 rfl (lv_at hl 0 rfl) ?_
  refine lv_iload_n hx hb d_X_moveBase_8 rfl (lv_at hl 3 rfl) ?_
  refine q_put (L := LX) (kc := 9) (ki := j1) (C := "DeficitNet$Flow") (T := T_F) (N := 14) (ci := 2) hx hb hts in_F ty_F tyok_F nm_F hown hK hW hS (okX9 (aix_lt ej1)) rfl rfl 7 (by decide) t_107 rfl rfl rfl (Nat.le_of_ble_eq_true rfl) rfl d_X_moveBase_9 (fun H locs z2 ez2 hW hS => ?_)
  have h := stM_n h ez2
  refine lv_aload_n hx hb d_X_moveBase_12 rfl (lv_at hl 0 rfl) ?_
  refine lv_aload_n hx hb d_X_moveBase_13 rfl (lv_at hl 0 rfl) ?_
  refine q_get (L := LX) (kc := 9) (ki := j1) (C := "DeficitNet$Flow") (T := T_F) (N := 14) (ci := 2) (v := .int (z2.1 9 j1 8)) hx hb hts in_F hown hK hW (okX9 (aix_lt ej1)) rfl rfl 8 (by decide) t_109 rfl d_X_moveBase_14 ?_
  refine lv_iload_n hx hb d_X_moveBase_17 rfl (lv_at hl 3 rfl) ?_
  obtain ⟨v3, ev3, h⟩ := bnd h
  refine q_mmax hx hb (hml.trans hl.1.symm) hown hts f_M_max t_418 (Nat.le_of_ble_eq_true rfl) (Nat.le_of_ble_eq_true rfl) ev3 d_X_moveBase_18 ?_
  refine q_put (L := LX) (kc := 9) (ki := j1) (C := "DeficitNet$Flow") (T := T_F) (N := 14) (ci := 2) hx hb hts in_F ty_F tyok_F nm_F hown hK hW hS (okX9 (aix_lt ej1)) rfl rfl 8 (by decide) t_109 rfl rfl rfl (Nat.le_of_ble_eq_true rfl) rfl d_X_moveBase_21 (fun H locs z4 ez4 hW hS => ?_)
  have h := stM_n h ez4
  refine lv_aload_n hx hb d_X_moveBase_24 rfl (lv_at hl 1 rfl) ?_
  refine q_get (L := LX) (kc := 0) (ki := 0) (C := "DeficitNet") (T := T_X) (N := 10) (ci := 0) (v := .ref (ad LX b 12 0)) hx hb hts in_X hown hK hW okX0 rfl rfl 4 (by decide) t_225 rfl d_X_moveBase_25 ?_
  refine lv_iload_n hx hb d_X_moveBase_28 rfl (lv_at hl 2 rfl) ?_
  obtain ⟨z5, ez5, h⟩ := bnd h
  refine q_callVv (C := "DeficitNet$Agenda") (As := [.int x1]) (rest := []) hx hb hml hown hts hK hW hS (c_A_unset l G b x1 z4 z5 ez5) f_A_unset t_321 ⟨rfl, rfl⟩ ⟨Nat.le_of_ble_eq_true rfl, Nat.le_of_ble_eq_true rfl⟩ (q_recv (L := LX) (kc := 12) (ki := 0) hK hW okX12 rfl rfl) rfl hl.1 rfl (Nat.le_of_ble_eq_true rfl) d_X_moveBase_29 (fun H locs hW hS => ?_)
  refine lv_aload_n hx hb d_X_moveBase_32 rfl (lv_at hl 0 rfl) ?_
  refine q_get (L := LX) (kc := 9) (ki := j1) (C := "DeficitNet$Flow") (T := T_F) (N := 14) (ci := 2) (v := .int (z5.1 9 j1 7)) hx hb hts in_F hown hK hW (okX9 (aix_lt ej1)) rfl rfl 7 (by decide) t_107 rfl d_X_moveBase_33 ?_
  refine lv_aload_n hx hb d_X_moveBase_36 rfl (lv_at hl 0 rfl) ?_
  refine q_get (L := LX) (kc := 9) (ki := j1) (C := "DeficitNet$Flow") (T := T_F) (N := 14) (ci := 2) (v := .int (z5.1 9 j1 8)) hx hb hts in_F hown hK hW (okX9 (aix_lt ej1)) rfl rfl 8 (by decide) t_109 rfl d_X_moveBase_37 ?_
  refine lv_icmp_ge (tgt := 48) hx hb d_X_moveBase_40 (by decide) (fun hc => ?_) (fun hc => ?_)
  · have h := ite_t h hc
    exact q_vret hx hb hr hlk hK hW hS h d_X_moveBase_48
  · have h := ite_f h hc
    refine lv_aload_n hx hb d_X_moveBase_43 rfl (lv_at hl 1 rfl) ?_
    refine lv_iload_n hx hb d_X_moveBase_44 rfl (lv_at hl 2 rfl) ?_
    obtain ⟨z6, ez6, h⟩ := bnd h
    refine q_callVv (C := "DeficitNet") (As := [.int x1]) (rest := []) hx hb hml hown hts hK hW hS (c_X_setTimer l G b x1 z5 z6 ez6) f_X_setTimer t_349 ⟨rfl, rfl⟩ ⟨Nat.le_of_ble_eq_true rfl, Nat.le_of_ble_eq_true rfl⟩ (q_recv (L := LX) (kc := 0) (ki := 0) hK hW okX0 rfl rfl) rfl hl.1 rfl (Nat.le_of_ble_eq_true rfl) d_X_moveBase_45 (fun H locs hW hS => ?_)
    exact q_vret hx hb hr hlk hK hW hS h d_X_moveBase_48
set_option maxHeartbeats 4000000 in
set_option maxRecDepth 100000 in
theorem c_X_takeData (l : Launch) (G : GG) (b : Nat) (x1 : Int32) (x2 : Int32) (z : Mem) (z0 : Mem) (h : dn_X_takeData x1 x2 z = some z0) : MtW l y_X_takeData b_X_takeData 4 none rm_X_takeData LX G b [.ref (ad LX b 0 0), .int x1, .int x2] z (QV LX G b z0) := by
  refine mtW_of (by decide) (Nat.le_of_ble_eq_true rfl) ?_
  intro p e s m args below meth c ls H locs C hW hS hl
  obtain ⟨hx, hb, hml, hr, hown, hts, hlk, hK⟩ := C
  have hl : lv_has ls 4 [(0, .ref (ad LX b 0 0)), (1, .int x1), (2, .int x2)] := hl
  unfold dn_X_takeData at h
  refine lv_aload_n hx hb d_X_takeData_0 rfl (lv_at hl 0 rfl) ?_
  refine q_get (L := LX) (kc := 0) (ki := 0) (C := "DeficitNet") (T := T_X) (N := 10) (ci := 0) (v := .ref (ad LX b 8 0)) hx hb hts in_X hown hK hW okX0 rfl rfl 2 (by decide) t_223 rfl d_X_takeData_1 ?_
  refine lv_iload_n hx hb d_X_takeData_4 rfl (lv_at hl 1 rfl) ?_
  obtain ⟨j1, ej1, h⟩ := bnd h
  refine q_aald (t0 := 5) (ty := (.object "DeficitNet$Flow")) (kd := 9) (L := LX) (kc := 8) (ki := 0) hx hb hK hW okX8 rfl rfl rfl ej1 d_X_takeData_5 ?_
  refine lv_astore_n hx hb d_X_takeData_6 rfl hl (by decide) rfl (fun ls hl => ?_)
  have hl : lv_has ls 4 [(3, .ref (ad LX b 9 j1)), (0, .ref (ad LX b 0 0)), (1, .int x1), (2, .int x2)] := hl
  refine lv_iload_n hx hb d_X_takeData_7 rfl (lv_at hl 3 rfl) ?_
  refine lv_aload_n hx hb d_X_takeData_8 rfl (lv_at hl 0 rfl) ?_
  refine q_get (L := LX) (kc := 9) (ki := j1) (C := "DeficitNet$Flow") (T := T_F) (N := 14) (ci := 2) (v := .int (z.1 9 j1 9)) hx hb hts in_F hown hK hW (okX9 (aix_lt ej1)) rfl rfl 9 (by decide) t_111 rfl d_X_takeData_9 ?_
  refine lv_icmp_ne (tgt := 25) hx hb d_X_takeData_12 (by decide) (fun hc => ?_) (fun hc => ?_)
  · have h := ite_f h hc
    refine lv_aload_n hx hb d_X_takeData_25 rfl (lv_at hl 1 rfl) ?_
    refine lv_aload_n hx hb d_X_takeData_26 rfl (lv_at hl 1 rfl) ?_
    refine lv_iload_n hx hb d_X_takeData_27 rfl (lv_at hl 2 rfl) ?_
    refine lv_aload_n hx hb d_X_takeData_28 rfl (lv_at hl 0 rfl) ?_
    refine q_get (L := LX) (kc := 9) (ki := j1) (C := "DeficitNet$Flow") (T := T_F) (N := 14) (ci := 2) (v := .int (z.1 9 j1 9)) hx hb hts in_F hown hK hW (okX9 (aix_lt ej1)) rfl rfl 9 (by decide) t_111 rfl d_X_takeData_29 ?_
    refine lv_iconst (v := (1 : Int32)) hx hb d_X_takeData_32 (by decide) ?_
    obtain ⟨⟨v2, z2⟩, er2, h⟩ := bnd h
    refine q_callVi (C := "DeficitNet") (As := [.int x1, .int (z.1 9 j1 9), .int (1 : Int32)]) (rest := [.ref (ad LX b 0 0)]) hx hb hml hown hts hK hW hS (c_X_make l G b x1 (z.1 9 j1 9) (1 : Int32) z v2 z2 er2) f_X_make t_353 ⟨rfl, rfl⟩ ⟨Nat.le_of_ble_eq_true rfl, Nat.le_of_ble_eq_true rfl⟩ (q_recv (L := LX) (kc := 0) (ki := 0) hK hW okX0 rfl rfl) rfl hl.1 rfl (Nat.le_of_ble_eq_true rfl) d_X_takeData_33 (fun H locs hW hS => ?_)
    refine lv_aload_n hx hb d_X_takeData_36 rfl (lv_at hl 0 rfl) ?_
    refine q_get (L := LX) (kc := 9) (ki := j1) (C := "DeficitNet$Flow") (T := T_F) (N := 14) (ci := 2) (v := .int (z2.1 9 j1 1)) hx hb hts in_F hown hK hW (okX9 (aix_lt ej1)) rfl rfl 1 (by decide) t_95 rfl d_X_takeData_37 ?_
    obtain ⟨z3, ez3, h⟩ := bnd h
    refine q_callVv (C := "DeficitNet") (As := [.int v2, .int (z2.1 9 j1 1)]) (rest := []) hx hb hml hown hts hK hW hS (c_X_put l G b v2 (z2.1 9 j1 1) z2 z3 ez3) f_X_put t_361 ⟨rfl, rfl⟩ ⟨Nat.le_of_ble_eq_true rfl, Nat.le_of_ble_eq_true rfl⟩ (q_recv (L := LX) (kc := 0) (ki := 0) hK hW okX0 rfl rfl) rfl hl.1 rfl (Nat.le_of_ble_eq_true rfl) d_X_takeData_40 (fun H locs hW hS => ?_)
    exact q_vret hx hb hr hlk hK hW hS h d_X_takeData_43
  · have h := ite_t h hc
    refine lv_aload_n hx hb d_X_takeData_15 rfl (lv_at hl 0 rfl) ?_
    refine lv_dup hx hb d_X_takeData_16 rfl ?_
    refine q_get (L := LX) (kc := 9) (ki := j1) (C := "DeficitNet$Flow") (T := T_F) (N := 14) (ci := 2) (v := .int (z.1 9 j1 9)) hx hb hts in_F hown hK hW (okX9 (aix_lt ej1)) rfl rfl 9 (by decide) t_111 rfl d_X_takeData_17 ?_
    refine lv_iconst (v := (1 : Int32)) hx hb d_X_takeData_20 (by decide) ?_
    refine lv_iadd hx hb d_X_takeData_21 ?_
    refine q_put (L := LX) (kc := 9) (ki := j1) (C := "DeficitNet$Flow") (T := T_F) (N := 14) (ci := 2) hx hb hts in_F ty_F tyok_F nm_F hown hK hW hS (okX9 (aix_lt ej1)) rfl rfl 9 (by decide) t_111 rfl rfl rfl (Nat.le_of_ble_eq_true rfl) rfl d_X_takeData_22 (fun H locs z4 ez4 hW hS => ?_)
    have h := stM_n h ez4
    refine lv_aload_n hx hb d_X_takeData_25 rfl (lv_at hl 1 rfl) ?_
    refine lv_aload_n hx hb d_X_takeData_26 rfl (lv_at hl 1 rfl) ?_
    refine lv_iload_n hx hb d_X_takeData_27 rfl (lv_at hl 2 rfl) ?_
    refine lv_aload_n hx hb d_X_takeData_28 rfl (lv_at hl 0 rfl) ?_
    refine q_get (L := LX) (kc := 9) (ki := j1) (C := "DeficitNet$Flow") (T := T_F) (N := 14) (ci := 2) (v := .int (z4.1 9 j1 9)) hx hb hts in_F hown hK hW (okX9 (aix_lt ej1)) rfl rfl 9 (by decide) t_111 rfl d_X_takeData_29 ?_
    refine lv_iconst (v := (1 : Int32)) hx hb d_X_takeData_32 (by decide) ?_
    obtain ⟨⟨v5, z5⟩, er5, h⟩ := bnd h
    refine q_callVi (C := "DeficitNet") (As := [.int x1, .int (z4.1 9 j1 9), .int (1 : Int32)]) (rest := [.ref (ad LX b 0 0)]) hx hb hml hown hts hK hW hS (c_X_make l G b x1 (z4.1 9 j1 9) (1 : Int32) z4 v5 z5 er5) f_X_make t_353 ⟨rfl, rfl⟩ ⟨Nat.le_of_ble_eq_true rfl, Nat.le_of_ble_eq_true rfl⟩ (q_recv (L := LX) (kc := 0) (ki := 0) hK hW okX0 rfl rfl) rfl hl.1 rfl (Nat.le_of_ble_eq_true rfl) d_X_takeData_33 (fun H locs hW hS => ?_)
    refine lv_aload_n hx hb d_X_takeData_36 rfl (lv_at hl 0 rfl) ?_
    refine q_get (L := LX) (kc := 9) (ki := j1) (C := "DeficitNet$Flow") (T := T_F) (N := 14) (ci := 2) (v := .int (z5.1 9 j1 1)) hx hb hts in_F hown hK hW (okX9 (aix_lt ej1)) rfl rfl 1 (by decide) t_95 rfl d_X_takeData_37 ?_
    obtain ⟨z6, ez6, h⟩ := bnd h
    refine q_callVv (C := "DeficitNet") (As := [.int v5, .int (z5.1 9 j1 1)]) (rest := []) hx hb hml hown hts hK hW hS (c_X_put l G b v5 (z5.1 9 j1 1) z5 z6 ez6) f_X_put t_361 ⟨rfl, rfl⟩ ⟨Nat.le_of_ble_eq_true rfl, Nat.le_of_ble_eq_true rfl⟩ (q_recv (L := LX) (kc := 0) (ki := 0) hK hW okX0 rfl rfl) rfl hl.1 rfl (Nat.le_of_ble_eq_true rfl) d_X_takeData_40 (fun H locs hW hS => ?_)
    exact q_vret hx hb hr hlk hK hW hS h d_X_takeData_43
set_option maxHeartbeats 4000000 in
set_option maxRecDepth 100000 in
theorem c_X_arrive (l : Launch) (G : GG) (b : Nat) (x1 : Int32) (z : Mem) (z0 : Mem) (h : dn_X_arrive x1 z = some z0) : MtW l y_X_arrive b_X_arrive 4 none rm_X_arrive LX G b [.ref (ad LX b 0 0), .int x1] z (QV LX G b z0) := by
  refine mtW_of (by decide) (Nat.le_of_ble_eq_true rfl) ?_
  intro p e s m args below meth c ls H locs C hW hS hl
  obtain ⟨hx, hb, hml, hr, hown, hts, hlk, hK⟩ := C
  have hl : lv_has ls 4 [(0, .ref (ad LX b 0 0)), (1, .int x1)] := hl
  unfold dn_X_arrive at h
  refine lv_aload_n hx hb d_X_arrive_0 rfl (lv_at hl 0 rfl) ?_
  refine q_get (L := LX) (kc := 0) (ki := 0) (C := "DeficitNet") (T := T_X) (N := 10) (ci := 0) (v := .ref (ad LX b 10 0)) hx hb hts in_X hown hK hW okX0 rfl rfl 3 (by decide) t_224 rfl d_X_arrive_1 ?_
  refine lv_iload_n hx hb d_X_arrive_4 rfl (lv_at hl 1 rfl) ?_
  obtain ⟨j1, ej1, h⟩ := bnd h
  refine q_aald (t0 := 6) (ty := (.object "DeficitNet$Packet")) (kd := 11) (L := LX) (kc := 10) (ki := 0) hx hb hK hW okX10 rfl rfl rfl ej1 d_X_arrive_5 ?_
  refine lv_astore_n hx hb d_X_arrive_6 rfl hl (by decide) rfl (fun ls hl => ?_)
  have hl : lv_has ls 4 [(2, .ref (ad LX b 11 j1)), (0, .ref (ad LX b 0 0)), (1, .int x1)] := hl
  refine lv_aload_n hx hb d_X_arrive_7 rfl (lv_at hl 1 rfl) ?_
  refine q_get (L := LX) (kc := 0) (ki := 0) (C := "DeficitNet") (T := T_X) (N := 10) (ci := 0) (v := .ref (ad LX b 3 0)) hx hb hts in_X hown hK hW okX0 rfl rfl 1 (by decide) t_222 rfl d_X_arrive_8 ?_
  refine lv_aload_n hx hb d_X_arrive_11 rfl (lv_at hl 0 rfl) ?_
  refine q_get (L := LX) (kc := 11) (ki := j1) (C := "DeficitNet$Packet") (T := T_K) (N := 7) (ci := 3) (v := .int (z.1 11 j1 6)) hx hb hts in_K hown hK hW (okX11 (aix_lt ej1)) rfl rfl 6 (by decide) t_168 rfl d_X_arrive_12 ?_
  obtain ⟨j2, ej2, h⟩ := bnd h
  refine q_aald (t0 := 4) (ty := (.object "DeficitNet$Port")) (kd := 4) (L := LX) (kc := 3) (ki := 0) hx hb hK hW okX3 rfl rfl rfl ej2 d_X_arrive_15 ?_
  refine q_get (L := LX) (kc := 4) (ki := j2) (C := "DeficitNet$Port") (T := T_P) (N := 14) (ci := 4) (v := .int (z.1 4 j2 1)) hx hb hts in_P hown hK hW (okX4 (aix_lt ej2)) rfl rfl 1 (by decide) t_30 rfl d_X_arrive_16 ?_
  refine lv_istore_n hx hb d_X_arrive_19 rfl hl (by decide) rfl (fun ls hl => ?_)
  have hl : lv_has ls 4 [(3, .int (z.1 4 j2 1)), (2, .ref (ad LX b 11 j1)), (0, .ref (ad LX b 0 0)), (1, .int x1)] := hl
  refine lv_aload_n hx hb d_X_arrive_20 rfl (lv_at hl 2 rfl) ?_
  refine lv_iconst (v := (3 : Int32)) hx hb d_X_arrive_21 (by decide) ?_
  refine lv_iload_n hx hb d_X_arrive_22 rfl (lv_at hl 0 rfl) ?_
  refine lv_aload_n hx hb d_X_arrive_23 rfl (lv_at hl 1 rfl) ?_
  obtain ⟨⟨v3, z3⟩, er3, h⟩ := bnd h
  refine q_callVi (C := "DeficitNet$Packet") (As := []) (rest := [.int (z.1 4 j2 1), .int (3 : Int32), .ref (ad LX b 0 0)]) hx hb hml hown hts hK hW hS (c_K_label l G b j1 z v3 z3 (aix_lt ej1) er3) f_K_label t_402 ⟨rfl, rfl⟩ ⟨Nat.le_of_ble_eq_true rfl, Nat.le_of_ble_eq_true rfl⟩ (q_recv (L := LX) (kc := 11) (ki := j1) hK hW (okX11 (aix_lt ej1)) rfl rfl) rfl hl.1 rfl (Nat.le_of_ble_eq_true rfl) d_X_arrive_24 (fun H locs hW hS => ?_)
  obtain ⟨z4, ez4, h⟩ := bnd h
  refine q_callVv (C := "DeficitNet") (As := [.int (3 : Int32), .int (z.1 4 j2 1), .int v3]) (rest := []) hx hb hml hown hts hK hW hS (c_X_remember l G b (3 : Int32) (z.1 4 j2 1) v3 z3 z4 ez4) f_X_remember t_329 ⟨rfl, rfl⟩ ⟨Nat.le_of_ble_eq_true rfl, Nat.le_of_ble_eq_true rfl⟩ (q_recv (L := LX) (kc := 0) (ki := 0) hK hW okX0 rfl rfl) rfl hl.1 rfl (Nat.le_of_ble_eq_true rfl) d_X_arrive_27 (fun H locs hW hS => ?_)
  refine lv_iload_n hx hb d_X_arrive_30 rfl (lv_at hl 0 rfl) ?_
  refine lv_aload_n hx hb d_X_arrive_31 rfl (lv_at hl 1 rfl) ?_
  refine q_get (L := LX) (kc := 11) (ki := j1) (C := "DeficitNet$Packet") (T := T_K) (N := 7) (ci := 3) (v := .int (z4.1 11 j1 5)) hx hb hts in_K hown hK hW (okX11 (aix_lt ej1)) rfl rfl 5 (by decide) t_167 rfl d_X_arrive_32 ?_
  refine lv_icmp_eq (tgt := 45) hx hb d_X_arrive_35 (by decide) (fun hc => ?_) (fun hc => ?_)
  · have h := ite_t h hc
    refine lv_aload_n hx hb d_X_arrive_45 rfl (lv_at hl 1 rfl) ?_
    refine lv_iconst (v := (0 : Int32)) hx hb d_X_arrive_46 (by decide) ?_
    obtain ⟨_, u5, h⟩ := bnd h
    refine q_put (L := LX) (kc := 11) (ki := j1) (C := "DeficitNet$Packet") (T := T_K) (N := 7) (ci := 3) hx hb hts in_K ty_K tyok_K nm_K hown hK hW hS (okX11 (aix_lt ej1)) rfl rfl 0 (by decide) t_157 rfl (bz_nar (bz_some u5)) (bz_fit (bz_some u5)) (Nat.le_of_ble_eq_true rfl) rfl d_X_arrive_47 (fun H locs z6 ez6 hW hS => ?_)
    have h := stM_n h ez6
    refine lv_aload_n hx hb d_X_arrive_50 rfl (lv_at hl 2 rfl) ?_
    refine q_get (L := LX) (kc := 0) (ki := 0) (C := "DeficitNet") (T := T_X) (N := 10) (ci := 0) (v := .ref (ad LX b 8 0)) hx hb hts in_X hown hK hW okX0 rfl rfl 2 (by decide) t_223 rfl d_X_arrive_51 ?_
    refine lv_aload_n hx hb d_X_arrive_54 rfl (lv_at hl 1 rfl) ?_
    refine q_get (L := LX) (kc := 11) (ki := j1) (C := "DeficitNet$Packet") (T := T_K) (N := 7) (ci := 3) (v := .int (z6.1 11 j1 2)) hx hb hts in_K hown hK hW (okX11 (aix_lt ej1)) rfl rfl 2 (by decide) t_161 rfl d_X_arrive_55 ?_
    obtain ⟨j7, ej7, h⟩ := bnd h
    refine q_aald (t0 := 5) (ty := (.object "DeficitNet$Flow")) (kd := 9) (L := LX) (kc := 8) (ki := 0) hx hb hK hW okX8 rfl rfl rfl ej7 d_X_arrive_58 ?_
    refine lv_dup hx hb d_X_arrive_59 rfl ?_
    refine q_get (L := LX) (kc := 9) (ki := j7) (C := "DeficitNet$Flow") (T := T_F) (N := 14) (ci := 2) (v := .int (z6.1 9 j7 11)) hx hb hts in_F hown hK hW (okX9 (aix_lt ej7)) rfl rfl 11 (by decide) t_115 rfl d_X_arrive_60 ?_
    refine lv_iconst (v := (1 : Int32)) hx hb d_X_arrive_63 (by decide) ?_
    refine lv_iadd hx hb d_X_arrive_64 ?_
    refine q_put (L := LX) (kc := 9) (ki := j7) (C := "DeficitNet$Flow") (T := T_F) (N := 14) (ci := 2) hx hb hts in_F ty_F tyok_F nm_F hown hK hW hS (okX9 (aix_lt ej7)) rfl rfl 11 (by decide) t_115 rfl rfl rfl (Nat.le_of_ble_eq_true rfl) rfl d_X_arrive_65 (fun H locs z8 ez8 hW hS => ?_)
    have h := stM_n h ez8
    refine lv_aload_n hx hb d_X_arrive_68 rfl (lv_at hl 1 rfl) ?_
    refine q_get (L := LX) (kc := 11) (ki := j1) (C := "DeficitNet$Packet") (T := T_K) (N := 7) (ci := 3) (v := .int (z8.1 11 j1 1)) hx hb hts in_K hown hK hW (okX11 (aix_lt ej1)) rfl rfl 1 (by decide) t_159 rfl d_X_arrive_69 ?_
    refine lv_if_ne (tgt := 90) hx hb d_X_arrive_72 (by decide) (fun hc => ?_) (fun hc => ?_)
    · have h := ite_f h hc
      refine lv_aload_n hx hb d_X_arrive_90 rfl (lv_at hl 1 rfl) ?_
      refine q_get (L := LX) (kc := 11) (ki := j1) (C := "DeficitNet$Packet") (T := T_K) (N := 7) (ci := 3) (v := .int (z8.1 11 j1 3)) hx hb hts in_K hown hK hW (okX11 (aix_lt ej1)) rfl rfl 3 (by decide) t_163 rfl d_X_arrive_91 ?_
      refine lv_aload_n hx hb d_X_arrive_94 rfl (lv_at hl 2 rfl) ?_
      refine q_get (L := LX) (kc := 0) (ki := 0) (C := "DeficitNet") (T := T_X) (N := 10) (ci := 0) (v := .ref (ad LX b 8 0)) hx hb hts in_X hown hK hW okX0 rfl rfl 2 (by decide) t_223 rfl d_X_arrive_95 ?_
      refine lv_aload_n hx hb d_X_arrive_98 rfl (lv_at hl 1 rfl) ?_
      refine q_get (L := LX) (kc := 11) (ki := j1) (C := "DeficitNet$Packet") (T := T_K) (N := 7) (ci := 3) (v := .int (z8.1 11 j1 2)) hx hb hts in_K hown hK hW (okX11 (aix_lt ej1)) rfl rfl 2 (by decide) t_161 rfl d_X_arrive_99 ?_
      obtain ⟨j9, ej9, h⟩ := bnd h
      refine q_aald (t0 := 5) (ty := (.object "DeficitNet$Flow")) (kd := 9) (L := LX) (kc := 8) (ki := 0) hx hb hK hW okX8 rfl rfl rfl ej9 d_X_arrive_102 ?_
      refine q_get (L := LX) (kc := 9) (ki := j9) (C := "DeficitNet$Flow") (T := T_F) (N := 14) (ci := 2) (v := .int (z8.1 9 j9 7)) hx hb hts in_F hown hK hW (okX9 (aix_lt ej9)) rfl rfl 7 (by decide) t_107 rfl d_X_arrive_103 ?_
      refine lv_icmp_le (tgt := 129) hx hb d_X_arrive_106 (by decide) (fun hc => ?_) (fun hc => ?_)
      · have h := ite_t h hc
        exact q_vret hx hb hr hlk hK hW hS h d_X_arrive_129
      · have h := ite_f h hc
        refine lv_aload_n hx hb d_X_arrive_109 rfl (lv_at hl 2 rfl) ?_
        refine lv_aload_n hx hb d_X_arrive_110 rfl (lv_at hl 1 rfl) ?_
        refine q_get (L := LX) (kc := 11) (ki := j1) (C := "DeficitNet$Packet") (T := T_K) (N := 7) (ci := 3) (v := .int (z8.1 11 j1 2)) hx hb hts in_K hown hK hW (okX11 (aix_lt ej1)) rfl rfl 2 (by decide) t_161 rfl d_X_arrive_111 ?_
        refine lv_aload_n hx hb d_X_arrive_114 rfl (lv_at hl 1 rfl) ?_
        refine q_get (L := LX) (kc := 11) (ki := j1) (C := "DeficitNet$Packet") (T := T_K) (N := 7) (ci := 3) (v := .int (z8.1 11 j1 3)) hx hb hts in_K hown hK hW (okX11 (aix_lt ej1)) rfl rfl 3 (by decide) t_163 rfl d_X_arrive_115 ?_
        obtain ⟨z10, ez10, h⟩ := bnd h
        refine q_callVv (C := "DeficitNet") (As := [.int (z8.1 11 j1 2), .int (z8.1 11 j1 3)]) (rest := []) hx hb hml hown hts hK hW hS (c_X_moveBase l G b (z8.1 11 j1 2) (z8.1 11 j1 3) z8 z10 ez10) f_X_moveBase t_414 ⟨rfl, rfl⟩ ⟨Nat.le_of_ble_eq_true rfl, Nat.le_of_ble_eq_true rfl⟩ (q_recv (L := LX) (kc := 0) (ki := 0) hK hW okX0 rfl rfl) rfl hl.1 rfl (Nat.le_of_ble_eq_true rfl) d_X_arrive_118 (fun H locs hW hS => ?_)
        refine lv_aload_n hx hb d_X_arrive_121 rfl (lv_at hl 2 rfl) ?_
        refine lv_aload_n hx hb d_X_arrive_122 rfl (lv_at hl 1 rfl) ?_
        refine q_get (L := LX) (kc := 11) (ki := j1) (C := "DeficitNet$Packet") (T := T_K) (N := 7) (ci := 3) (v := .int (z10.1 11 j1 2)) hx hb hts in_K hown hK hW (okX11 (aix_lt ej1)) rfl rfl 2 (by decide) t_161 rfl d_X_arrive_123 ?_
        obtain ⟨z11, ez11, h⟩ := bnd h
        refine q_callVv (C := "DeficitNet") (As := [.int (z10.1 11 j1 2)]) (rest := []) hx hb hml hown hts hK hW hS (c_X_fill l G b (z10.1 11 j1 2) z10 z11 ez11) f_X_fill t_338 ⟨rfl, rfl⟩ ⟨Nat.le_of_ble_eq_true rfl, Nat.le_of_ble_eq_true rfl⟩ (q_recv (L := LX) (kc := 0) (ki := 0) hK hW okX0 rfl rfl) rfl hl.1 rfl (Nat.le_of_ble_eq_true rfl) d_X_arrive_126 (fun H locs hW hS => ?_)
        exact q_vret hx hb hr hlk hK hW hS h d_X_arrive_129
    · have h := ite_t h hc
      refine lv_aload_n hx hb d_X_arrive_75 rfl (lv_at hl 2 rfl) ?_
      refine lv_aload_n hx hb d_X_arrive_76 rfl (lv_at hl 1 rfl) ?_
      refine q_get (L := LX) (kc := 11) (ki := j1) (C := "DeficitNet$Packet") (T := T_K) (N := 7) (ci := 3) (v := .int (z8.1 11 j1 2)) hx hb hts in_K hown hK hW (okX11 (aix_lt ej1)) rfl rfl 2 (by decide) t_161 rfl d_X_arrive_77 ?_
      refine lv_aload_n hx hb d_X_arrive_80 rfl (lv_at hl 1 rfl) ?_
      refine q_get (L := LX) (kc := 11) (ki := j1) (C := "DeficitNet$Packet") (T := T_K) (N := 7) (ci := 3) (v := .int (z8.1 11 j1 3)) hx hb hts in_K hown hK hW (okX11 (aix_lt ej1)) rfl rfl 3 (by decide) t_163 rfl d_X_arrive_81 ?_
      obtain ⟨z12, ez12, h⟩ := bnd h
      refine q_callVv (C := "DeficitNet") (As := [.int (z8.1 11 j1 2), .int (z8.1 11 j1 3)]) (rest := []) hx hb hml hown hts hK hW hS (c_X_takeData l G b (z8.1 11 j1 2) (z8.1 11 j1 3) z8 z12 ez12) f_X_takeData t_410 ⟨rfl, rfl⟩ ⟨Nat.le_of_ble_eq_true rfl, Nat.le_of_ble_eq_true rfl⟩ (q_recv (L := LX) (kc := 0) (ki := 0) hK hW okX0 rfl rfl) rfl hl.1 rfl (Nat.le_of_ble_eq_true rfl) d_X_arrive_84 (fun H locs hW hS => ?_)
      refine lv_goto (tgt := 129) hx hb d_X_arrive_87 (by decide) ?_
      exact q_vret hx hb hr hlk hK hW hS h d_X_arrive_129
  · have h := ite_f h hc
    refine lv_aload_n hx hb d_X_arrive_38 rfl (lv_at hl 2 rfl) ?_
    refine lv_iload_n hx hb d_X_arrive_39 rfl (lv_at hl 3 rfl) ?_
    refine lv_iload_n hx hb d_X_arrive_40 rfl (lv_at hl 0 rfl) ?_
    obtain ⟨z13, ez13, h⟩ := bnd h
    refine q_callVv (C := "DeficitNet") (As := [.int x1, .int (z.1 4 j2 1)]) (rest := []) hx hb hml hown hts hK hW hS (c_X_put l G b x1 (z.1 4 j2 1) z4 z13 ez13) f_X_put t_361 ⟨rfl, rfl⟩ ⟨Nat.le_of_ble_eq_true rfl, Nat.le_of_ble_eq_true rfl⟩ (q_recv (L := LX) (kc := 0) (ki := 0) hK hW okX0 rfl rfl) rfl hl.1 rfl (Nat.le_of_ble_eq_true rfl) d_X_arrive_41 (fun H locs hW hS => ?_)
    exact q_vret hx hb hr hlk hK hW hS h d_X_arrive_44
set_option maxHeartbeats 4000000 in
set_option maxRecDepth 100000 in
theorem c_X_timeOut (l : Launch) (G : GG) (b : Nat) (x1 : Int32) (z : Mem) (z0 : Mem) (h : dn_X_timeOut x1 z = some z0) : MtW l y_X_timeOut b_X_timeOut 3 none rm_X_timeOut LX G b [.ref (ad LX b 0 0), .int x1] z (QV LX G b z0) := by
  refine mtW_of (by decide) (Nat.le_of_ble_eq_true rfl) ?_
  intro p e s m args below meth c ls H locs C hW hS hl
  obtain ⟨hx, hb, hml, hr, hown, hts, hlk, hK⟩ := C
  have hl : lv_has ls 3 [(0, .ref (ad LX b 0 0)), (1, .int x1)] := hl
  unfold dn_X_timeOut at h
  refine lv_aload_n hx hb d_X_timeOut_0 rfl (lv_at hl 0 rfl) ?_
  refine q_get (L := LX) (kc := 0) (ki := 0) (C := "DeficitNet") (T := T_X) (N := 10) (ci := 0) (v := .ref (ad LX b 8 0)) hx hb hts in_X hown hK hW okX0 rfl rfl 2 (by decide) t_223 rfl d_X_timeOut_1 ?_
  refine lv_iload_n hx hb d_X_timeOut_4 rfl (lv_at hl 1 rfl) ?_
  obtain ⟨j1, ej1, h⟩ := bnd h
  refine q_aald (t0 := 5) (ty := (.object "DeficitNet$Flow")) (kd := 9) (L := LX) (kc := 8) (ki := 0) hx hb hK hW okX8 rfl rfl rfl ej1 d_X_timeOut_5 ?_
  refine lv_astore_n hx hb d_X_timeOut_6 rfl hl (by decide) rfl (fun ls hl => ?_)
  have hl : lv_has ls 3 [(2, .ref (ad LX b 9 j1)), (0, .ref (ad LX b 0 0)), (1, .int x1)] := hl
  refine lv_aload_n hx hb d_X_timeOut_7 rfl (lv_at hl 1 rfl) ?_
  refine lv_iconst (v := (4 : Int32)) hx hb d_X_timeOut_8 (by decide) ?_
  refine lv_iload_n hx hb d_X_timeOut_9 rfl (lv_at hl 2 rfl) ?_
  refine lv_aload_n hx hb d_X_timeOut_10 rfl (lv_at hl 0 rfl) ?_
  refine q_get (L := LX) (kc := 9) (ki := j1) (C := "DeficitNet$Flow") (T := T_F) (N := 14) (ci := 2) (v := .int (z.1 9 j1 7)) hx hb hts in_F hown hK hW (okX9 (aix_lt ej1)) rfl rfl 7 (by decide) t_107 rfl d_X_timeOut_11 ?_
  obtain ⟨z2, ez2, h⟩ := bnd h
  refine q_callVv (C := "DeficitNet") (As := [.int (4 : Int32), .int x1, .int (z.1 9 j1 7)]) (rest := []) hx hb hml hown hts hK hW hS (c_X_remember l G b (4 : Int32) x1 (z.1 9 j1 7) z z2 ez2) f_X_remember t_329 ⟨rfl, rfl⟩ ⟨Nat.le_of_ble_eq_true rfl, Nat.le_of_ble_eq_true rfl⟩ (q_recv (L := LX) (kc := 0) (ki := 0) hK hW okX0 rfl rfl) rfl hl.1 rfl (Nat.le_of_ble_eq_true rfl) d_X_timeOut_14 (fun H locs hW hS => ?_)
  refine lv_aload_n hx hb d_X_timeOut_17 rfl (lv_at hl 0 rfl) ?_
  refine lv_dup hx hb d_X_timeOut_18 rfl ?_
  refine q_get (L := LX) (kc := 9) (ki := j1) (C := "DeficitNet$Flow") (T := T_F) (N := 14) (ci := 2) (v := .int (z2.1 9 j1 13)) hx hb hts in_F hown hK hW (okX9 (aix_lt ej1)) rfl rfl 13 (by decide) t_119 rfl d_X_timeOut_19 ?_
  refine lv_iconst (v := (1 : Int32)) hx hb d_X_timeOut_22 (by decide) ?_
  refine lv_iadd hx hb d_X_timeOut_23 ?_
  refine q_put (L := LX) (kc := 9) (ki := j1) (C := "DeficitNet$Flow") (T := T_F) (N := 14) (ci := 2) hx hb hts in_F ty_F tyok_F nm_F hown hK hW hS (okX9 (aix_lt ej1)) rfl rfl 13 (by decide) t_119 rfl rfl rfl (Nat.le_of_ble_eq_true rfl) rfl d_X_timeOut_24 (fun H locs z3 ez3 hW hS => ?_)
  have h := stM_n h ez3
  refine lv_aload_n hx hb d_X_timeOut_27 rfl (lv_at hl 0 rfl) ?_
  refine lv_aload_n hx hb d_X_timeOut_28 rfl (lv_at hl 0 rfl) ?_
  refine q_get (L := LX) (kc := 9) (ki := j1) (C := "DeficitNet$Flow") (T := T_F) (N := 14) (ci := 2) (v := .int (z3.1 9 j1 7)) hx hb hts in_F hown hK hW (okX9 (aix_lt ej1)) rfl rfl 7 (by decide) t_107 rfl d_X_timeOut_29 ?_
  refine q_put (L := LX) (kc := 9) (ki := j1) (C := "DeficitNet$Flow") (T := T_F) (N := 14) (ci := 2) hx hb hts in_F ty_F tyok_F nm_F hown hK hW hS (okX9 (aix_lt ej1)) rfl rfl 8 (by decide) t_109 rfl rfl rfl (Nat.le_of_ble_eq_true rfl) rfl d_X_timeOut_32 (fun H locs z4 ez4 hW hS => ?_)
  have h := stM_n h ez4
  refine lv_aload_n hx hb d_X_timeOut_35 rfl (lv_at hl 1 rfl) ?_
  refine lv_iload_n hx hb d_X_timeOut_36 rfl (lv_at hl 2 rfl) ?_
  obtain ⟨z5, ez5, h⟩ := bnd h
  refine q_callVv (C := "DeficitNet") (As := [.int x1]) (rest := []) hx hb hml hown hts hK hW hS (c_X_fill l G b x1 z4 z5 ez5) f_X_fill t_338 ⟨rfl, rfl⟩ ⟨Nat.le_of_ble_eq_true rfl, Nat.le_of_ble_eq_true rfl⟩ (q_recv (L := LX) (kc := 0) (ki := 0) hK hW okX0 rfl rfl) rfl hl.1 rfl (Nat.le_of_ble_eq_true rfl) d_X_timeOut_37 (fun H locs hW hS => ?_)
  exact q_vret hx hb hr hlk hK hW hS h d_X_timeOut_40
set_option maxHeartbeats 4000000 in
set_option maxRecDepth 100000 in
theorem c_X_happen (l : Launch) (G : GG) (b : Nat) (z : Mem) (r0 : Int32) (z0 : Mem) (h : dn_X_happen z = some (r0, z0)) : MtW l y_X_happen b_X_happen 3 (some .boolean) rm_X_happen LX G b [.ref (ad LX b 0 0)] z (QI LX G b r0 z0) := by
  refine mtW_of (by decide) (Nat.le_of_ble_eq_true rfl) ?_
  intro p e s m args below meth c ls H locs C hW hS hl
  obtain ⟨hx, hb, hml, hr, hown, hts, hlk, hK⟩ := C
  have hl : lv_has ls 3 [(0, .ref (ad LX b 0 0))] := hl
  unfold dn_X_happen at h
  refine lv_aload_n hx hb d_X_happen_0 rfl (lv_at hl 0 rfl) ?_
  refine q_get (L := LX) (kc := 0) (ki := 0) (C := "DeficitNet") (T := T_X) (N := 10) (ci := 0) (v := .ref (ad LX b 12 0)) hx hb hts in_X hown hK hW okX0 rfl rfl 4 (by decide) t_225 rfl d_X_happen_1 ?_
  obtain ⟨⟨v1, z1⟩, er1, h⟩ := bnd h
  refine q_callVi (C := "DeficitNet$Agenda") (As := []) (rest := []) hx hb hml hown hts hK hW hS (c_A_firstSlot l G b z v1 z1 er1) f_A_firstSlot t_313 ⟨rfl, rfl⟩ ⟨Nat.le_of_ble_eq_true rfl, Nat.le_of_ble_eq_true rfl⟩ (q_recv (L := LX) (kc := 12) (ki := 0) hK hW okX12 rfl rfl) rfl hl.1 rfl (Nat.le_of_ble_eq_true rfl) d_X_happen_4 (fun H locs hW hS => ?_)
  refine lv_istore_n hx hb d_X_happen_7 rfl hl (by decide) rfl (fun ls hl => ?_)
  have hl : lv_has ls 3 [(1, .int v1), (0, .ref (ad LX b 0 0))] := hl
  refine lv_iload_n hx hb d_X_happen_8 rfl (lv_at hl 0 rfl) ?_
  refine lv_iconst (v := (-1 : Int32)) hx hb d_X_happen_9 (by decide) ?_
  refine lv_icmp_ne (tgt := 15) hx hb d_X_happen_10 (by decide) (fun hc => ?_) (fun hc => ?_)
  · have h := ite_f h hc
    refine lv_aload_n hx hb d_X_happen_15 rfl (lv_at hl 1 rfl) ?_
    refine lv_aload_n hx hb d_X_happen_16 rfl (lv_at hl 1 rfl) ?_
    refine q_get (L := LX) (kc := 0) (ki := 0) (C := "DeficitNet") (T := T_X) (N := 10) (ci := 0) (v := .ref (ad LX b 12 0)) hx hb hts in_X hown hK hW okX0 rfl rfl 4 (by decide) t_225 rfl d_X_happen_17 ?_
    refine q_get (L := LX) (kc := 12) (ki := 0) (C := "DeficitNet$Agenda") (T := T_A) (N := 4) (ci := 1) (v := .ref (ad LX b 14 0)) hx hb hts in_A hown hK hW okX12 rfl rfl 1 (by decide) t_193 rfl d_X_happen_20 ?_
    refine lv_iload_n hx hb d_X_happen_23 rfl (lv_at hl 0 rfl) ?_
    obtain ⟨j2, ej2, h⟩ := bnd h
    refine q_iald (L := LX) (kc := 14) (ki := 0) hx hb hK hW okX14 rfl ej2 d_X_happen_24 ?_
    refine q_put (L := LX) (kc := 0) (ki := 0) (C := "DeficitNet") (T := T_X) (N := 10) (ci := 0) hx hb hts in_X ty_X tyok_X nm_X hown hK hW hS okX0 rfl rfl 8 (by decide) t_229 rfl rfl rfl (Nat.le_of_ble_eq_true rfl) rfl d_X_happen_25 (fun H locs z3 ez3 hW hS => ?_)
    have h := stM_n h ez3
    refine lv_aload_n hx hb d_X_happen_28 rfl (lv_at hl 1 rfl) ?_
    refine q_get (L := LX) (kc := 0) (ki := 0) (C := "DeficitNet") (T := T_X) (N := 10) (ci := 0) (v := .ref (ad LX b 12 0)) hx hb hts in_X hown hK hW okX0 rfl rfl 4 (by decide) t_225 rfl d_X_happen_29 ?_
    refine q_get (L := LX) (kc := 12) (ki := 0) (C := "DeficitNet$Agenda") (T := T_A) (N := 4) (ci := 1) (v := .ref (ad LX b 13 0)) hx hb hts in_A hown hK hW okX12 rfl rfl 0 (by decide) t_191 rfl d_X_happen_32 ?_
    refine lv_iload_n hx hb d_X_happen_35 rfl (lv_at hl 0 rfl) ?_
    obtain ⟨j4, ej4, h⟩ := bnd h
    refine q_iald (L := LX) (kc := 13) (ki := 0) hx hb hK hW okX13 rfl ej4 d_X_happen_36 ?_
    refine lv_istore_n hx hb d_X_happen_37 rfl hl (by decide) rfl (fun ls hl => ?_)
    have hl : lv_has ls 3 [(2, .int (z3.1 13 0 j4)), (1, .int v1), (0, .ref (ad LX b 0 0))] := hl
    refine lv_aload_n hx hb d_X_happen_38 rfl (lv_at hl 2 rfl) ?_
    refine q_get (L := LX) (kc := 0) (ki := 0) (C := "DeficitNet") (T := T_X) (N := 10) (ci := 0) (v := .ref (ad LX b 12 0)) hx hb hts in_X hown hK hW okX0 rfl rfl 4 (by decide) t_225 rfl d_X_happen_39 ?_
    refine lv_iload_n hx hb d_X_happen_42 rfl (lv_at hl 1 rfl) ?_
    obtain ⟨z5, ez5, h⟩ := bnd h
    refine q_callVv (C := "DeficitNet$Agenda") (As := [.int v1]) (rest := []) hx hb hml hown hts hK hW hS (c_A_unset l G b v1 z3 z5 ez5) f_A_unset t_321 ⟨rfl, rfl⟩ ⟨Nat.le_of_ble_eq_true rfl, Nat.le_of_ble_eq_true rfl⟩ (q_recv (L := LX) (kc := 12) (ki := 0) hK hW okX12 rfl rfl) rfl hl.1 rfl (Nat.le_of_ble_eq_true rfl) d_X_happen_43 (fun H locs hW hS => ?_)
    refine lv_iload_n hx hb d_X_happen_46 rfl (lv_at hl 0 rfl) ?_
    by_cases hc1 : (z3.1 13 0 j4) = (1 : Int32)
    · have h := ite_t h hc1
      refine lv_tableIn (tgt := 72) hx hb d_X_happen_47 (by rw [hc1]; decide) (by rw [hc1]; decide) (by rw [hc1]; rfl) (by decide) ?_
      refine lv_aload_n hx hb d_X_happen_72 rfl (lv_at hl 2 rfl) ?_
      refine lv_iload_n hx hb d_X_happen_73 rfl (lv_at hl 1 rfl) ?_
      obtain ⟨z6, ez6, h⟩ := bnd h
      refine q_callVv (C := "DeficitNet") (As := [.int v1]) (rest := []) hx hb hml hown hts hK hW hS (c_X_start l G b v1 z5 z6 ez6) f_X_start t_325 ⟨rfl, rfl⟩ ⟨Nat.le_of_ble_eq_true rfl, Nat.le_of_ble_eq_true rfl⟩ (q_recv (L := LX) (kc := 0) (ki := 0) hK hW okX0 rfl rfl) rfl hl.1 rfl (Nat.le_of_ble_eq_true rfl) d_X_happen_74 (fun H locs hW hS => ?_)
      refine lv_goto (tgt := 107) hx hb d_X_happen_77 (by decide) ?_
      refine lv_iconst (v := (1 : Int32)) hx hb d_X_happen_107 (by decide) ?_
      obtain ⟨_, u7, h⟩ := bnd h
      exact q_zret hx hb hr hlk hK hW hS (bz_some u7) h d_X_happen_108
    have h := ite_f h hc1
    by_cases hc2 : (z3.1 13 0 j4) = (2 : Int32)
    · have h := ite_t h hc2
      refine lv_tableIn (tgt := 80) hx hb d_X_happen_47 (by rw [hc2]; decide) (by rw [hc2]; decide) (by rw [hc2]; rfl) (by decide) ?_
      refine lv_aload_n hx hb d_X_happen_80 rfl (lv_at hl 2 rfl) ?_
      refine lv_iload_n hx hb d_X_happen_81 rfl (lv_at hl 1 rfl) ?_
      refine lv_bipush (v := (6 : Int32)) hx hb d_X_happen_82 (by decide) ?_
      refine lv_isub hx hb d_X_happen_84 ?_
      obtain ⟨z8, ez8, h⟩ := bnd h
      refine q_callVv (C := "DeficitNet") (As := [.int (v1 - (6 : Int32))]) (rest := []) hx hb hml hown hts hK hW hS (c_X_leave l G b (v1 - (6 : Int32)) z5 z8 ez8) f_X_leave t_398 ⟨rfl, rfl⟩ ⟨Nat.le_of_ble_eq_true rfl, Nat.le_of_ble_eq_true rfl⟩ (q_recv (L := LX) (kc := 0) (ki := 0) hK hW okX0 rfl rfl) rfl hl.1 rfl (Nat.le_of_ble_eq_true rfl) d_X_happen_85 (fun H locs hW hS => ?_)
      refine lv_goto (tgt := 107) hx hb d_X_happen_88 (by decide) ?_
      refine lv_iconst (v := (1 : Int32)) hx hb d_X_happen_107 (by decide) ?_
      obtain ⟨_, u9, h⟩ := bnd h
      exact q_zret hx hb hr hlk hK hW hS (bz_some u9) h d_X_happen_108
    have h := ite_f h hc2
    by_cases hc3 : (z3.1 13 0 j4) = (3 : Int32)
    · have h := ite_t h hc3
      refine lv_tableIn (tgt := 91) hx hb d_X_happen_47 (by rw [hc3]; decide) (by rw [hc3]; decide) (by rw [hc3]; rfl) (by decide) ?_
      refine lv_aload_n hx hb d_X_happen_91 rfl (lv_at hl 2 rfl) ?_
      refine lv_iload_n hx hb d_X_happen_92 rfl (lv_at hl 1 rfl) ?_
      refine lv_bipush (v := (6 : Int32)) hx hb d_X_happen_93 (by decide) ?_
      refine lv_isub hx hb d_X_happen_95 ?_
      obtain ⟨z10, ez10, h⟩ := bnd h
      refine q_callVv (C := "DeficitNet") (As := [.int (v1 - (6 : Int32))]) (rest := []) hx hb hml hown hts hK hW hS (c_X_arrive l G b (v1 - (6 : Int32)) z5 z10 ez10) f_X_arrive t_406 ⟨rfl, rfl⟩ ⟨Nat.le_of_ble_eq_true rfl, Nat.le_of_ble_eq_true rfl⟩ (q_recv (L := LX) (kc := 0) (ki := 0) hK hW okX0 rfl rfl) rfl hl.1 rfl (Nat.le_of_ble_eq_true rfl) d_X_happen_96 (fun H locs hW hS => ?_)
      refine lv_goto (tgt := 107) hx hb d_X_happen_99 (by decide) ?_
      refine lv_iconst (v := (1 : Int32)) hx hb d_X_happen_107 (by decide) ?_
      obtain ⟨_, u11, h⟩ := bnd h
      exact q_zret hx hb hr hlk hK hW hS (bz_some u11) h d_X_happen_108
    have h := ite_f h hc3
    refine lv_tableOut (tgt := 102) hx hb d_X_happen_47 (sw_out1_3 hc1 hc2 hc3) (by decide) ?_
    refine lv_aload_n hx hb d_X_happen_102 rfl (lv_at hl 2 rfl) ?_
    refine lv_iload_n hx hb d_X_happen_103 rfl (lv_at hl 1 rfl) ?_
    obtain ⟨z12, ez12, h⟩ := bnd h
    refine q_callVv (C := "DeficitNet") (As := [.int v1]) (rest := []) hx hb hml hown hts hK hW hS (c_X_timeOut l G b v1 z5 z12 ez12) f_X_timeOut t_421 ⟨rfl, rfl⟩ ⟨Nat.le_of_ble_eq_true rfl, Nat.le_of_ble_eq_true rfl⟩ (q_recv (L := LX) (kc := 0) (ki := 0) hK hW okX0 rfl rfl) rfl hl.1 rfl (Nat.le_of_ble_eq_true rfl) d_X_happen_104 (fun H locs hW hS => ?_)
    refine lv_iconst (v := (1 : Int32)) hx hb d_X_happen_107 (by decide) ?_
    obtain ⟨_, u13, h⟩ := bnd h
    exact q_zret hx hb hr hlk hK hW hS (bz_some u13) h d_X_happen_108
  · have h := ite_t h hc
    refine lv_iconst (v := (0 : Int32)) hx hb d_X_happen_13 (by decide) ?_
    obtain ⟨_, u14, h⟩ := bnd h
    exact q_zret hx hb hr hlk hK hW hS (bz_some u14) h d_X_happen_14
