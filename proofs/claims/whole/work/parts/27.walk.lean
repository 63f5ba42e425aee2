set_option maxHeartbeats 4000000 in
set_option maxRecDepth 100000 in
theorem c_Y_waiting (l : Launch) (G : GG) (b : Nat) (x1 : Int32) (x2 : Int32) (z : Mem) (r0 : Int32) (z0 : Mem) (h : dn_Y_waiting x1 x2 z = some (r0, z0)) : MtW l y_Y_waiting b_Y_waiting 3 (some .int) rm_Y_waiting LY G b [.ref (ad LY b 0 0), .int x1, .int x2] z (QI LY G b r0 z0) := by
  refine mtW_of (by decide) (Nat.le_of_ble_eq_true rfl) ?_
  intro p e s m args below meth c ls H locs C hW hS hl
  obtain ⟨hx, hb, hml, hr, hown, hts, hlk, hK⟩ := C
  have hl : lv_has ls 3 [(0, .ref (ad LY b 0 0)), (1, .int x1), (2, .int x2)] := hl
  unfold dn_Y_waiting at h
  refine lv_aload_n hx hb d_Y_waiting_0 rfl (lv_at hl 0 rfl) ?_
  refine lv_iload_n hx hb d_Y_waiting_1 rfl (lv_at hl 1 rfl) ?_
  obtain ⟨⟨v1, z1⟩, er1, h⟩ := bnd h
  refine q_callVi (C := "DeficitNetModel") (As := [.int x1]) (rest := []) hx hb hml hown hts hK hW hS (c_Y_isPort l G b x1 z v1 z1 er1) f_Y_isPort t_617 ⟨rfl, rfl⟩ ⟨Nat.le_of_ble_eq_true rfl, Nat.le_of_ble_eq_true rfl⟩ (q_recv (L := LY) (kc := 0) (ki := 0) hK hW okY0 rfl rfl) rfl hl.1 rfl (Nat.le_of_ble_eq_true rfl) d_Y_waiting_2 (fun H locs hW hS => ?_)
  refine lv_if_eq (tgt := 21) hx hb d_Y_waiting_5 (by decide) (fun hc => ?_) (fun hc => ?_)
  · have h := ite_t h hc
    refine lv_iconst (v := (-1 : Int32)) hx hb d_Y_waiting_21 (by decide) ?_
    refine lv_goto (tgt := 31) hx hb d_Y_waiting_22 (by decide) ?_
    exact q_iret hx hb hr hlk hK hW hS h d_Y_waiting_31
  · have h := ite_f h hc
    refine lv_iload_n hx hb d_Y_waiting_8 rfl (lv_at hl 2 rfl) ?_
    refine lv_iconst (v := (-1 : Int32)) hx hb d_Y_waiting_9 (by decide) ?_
    refine lv_icmp_eq (tgt := 25) hx hb d_Y_waiting_10 (by decide) (fun hc => ?_) (fun hc => ?_)
    · have h := ite_t h hc
      refine lv_aload_n hx hb d_Y_waiting_25 rfl (lv_at hl 0 rfl) ?_
      refine lv_iload_n hx hb d_Y_waiting_26 rfl (lv_at hl 1 rfl) ?_
      refine lv_iload_n hx hb d_Y_waiting_27 rfl (lv_at hl 2 rfl) ?_
      obtain ⟨⟨v2, z2⟩, er2, h⟩ := bnd h
      refine q_callVi (C := "DeficitNetModel") (As := [.int x1, .int x2]) (rest := []) hx hb hml hown hts hK hW hS (c_Y_queued l G b x1 x2 z1 v2 z2 er2) f_Y_queued t_694 ⟨rfl, rfl⟩ ⟨Nat.le_of_ble_eq_true rfl, Nat.le_of_ble_eq_true rfl⟩ (q_recv (L := LY) (kc := 0) (ki := 0) hK hW okY0 rfl rfl) rfl hl.1 rfl (Nat.le_of_ble_eq_true rfl) d_Y_waiting_28 (fun H locs hW hS => ?_)
      exact q_iret hx hb hr hlk hK hW hS h d_Y_waiting_31
    · have h := ite_f h hc
      refine lv_aload_n hx hb d_Y_waiting_13 rfl (lv_at hl 0 rfl) ?_
      refine lv_iload_n hx hb d_Y_waiting_14 rfl (lv_at hl 2 rfl) ?_
      obtain ⟨⟨v3, z3⟩, er3, h⟩ := bnd h
      refine q_callVi (C := "DeficitNetModel") (As := [.int x2]) (rest := []) hx hb hml hown hts hK hW hS (c_Y_isFlow l G b x2 z1 v3 z3 er3) f_Y_isFlow t_629 ⟨rfl, rfl⟩ ⟨Nat.le_of_ble_eq_true rfl, Nat.le_of_ble_eq_true rfl⟩ (q_recv (L := LY) (kc := 0) (ki := 0) hK hW okY0 rfl rfl) rfl hl.1 rfl (Nat.le_of_ble_eq_true rfl) d_Y_waiting_15 (fun H locs hW hS => ?_)
      refine lv_if_ne (tgt := 25) hx hb d_Y_waiting_18 (by decide) (fun hc => ?_) (fun hc => ?_)
      · have h := ite_f h hc
        refine lv_aload_n hx hb d_Y_waiting_25 rfl (lv_at hl 0 rfl) ?_
        refine lv_iload_n hx hb d_Y_waiting_26 rfl (lv_at hl 1 rfl) ?_
        refine lv_iload_n hx hb d_Y_waiting_27 rfl (lv_at hl 2 rfl) ?_
        obtain ⟨⟨v4, z4⟩, er4, h⟩ := bnd h
        refine q_callVi (C := "DeficitNetModel") (As := [.int x1, .int x2]) (rest := []) hx hb hml hown hts hK hW hS (c_Y_queued l G b x1 x2 z3 v4 z4 er4) f_Y_queued t_694 ⟨rfl, rfl⟩ ⟨Nat.le_of_ble_eq_true rfl, Nat.le_of_ble_eq_true rfl⟩ (q_recv (L := LY) (kc := 0) (ki := 0) hK hW okY0 rfl rfl) rfl hl.1 rfl (Nat.le_of_ble_eq_true rfl) d_Y_waiting_28 (fun H locs hW hS => ?_)
        exact q_iret hx hb hr hlk hK hW hS h d_Y_waiting_31
      · have h := ite_t h hc
        refine lv_iconst (v := (-1 : Int32)) hx hb d_Y_waiting_21 (by decide) ?_
        refine lv_goto (tgt := 31) hx hb d_Y_waiting_22 (by decide) ?_
        exact q_iret hx hb hr hlk hK hW hS h d_Y_waiting_31
set_option maxHeartbeats 4000000 in
set_option maxRecDepth 100000 in
theorem c_Y_deficit (l : Launch) (G : GG) (b : Nat) (x1 : Int32) (x2 : Int32) (z : Mem) (r0 : Int32) (z0 : Mem) (h : dn_Y_deficit x1 x2 z = some (r0, z0)) : MtW l y_Y_deficit b_Y_deficit 3 (some .int) rm_Y_deficit LY G b [.ref (ad LY b 0 0), .int x1, .int x2] z (QI LY G b r0 z0) := by
  refine mtW_of (by decide) (Nat.le_of_ble_eq_true rfl) ?_
  intro p e s m args below meth c ls H locs C hW hS hl
  obtain ⟨hx, hb, hml, hr, hown, hts, hlk, hK⟩ := C
  have hl : lv_has ls 3 [(0, .ref (ad LY b 0 0)), (1, .int x1), (2, .int x2)] := hl
  unfold dn_Y_deficit at h
  refine lv_aload_n hx hb d_Y_deficit_0 rfl (lv_at hl 0 rfl) ?_
  refine lv_iload_n hx hb d_Y_deficit_1 rfl (lv_at hl 1 rfl) ?_
  obtain ⟨⟨v1, z1⟩, er1, h⟩ := bnd h
  refine q_callVi (C := "DeficitNetModel") (As := [.int x1]) (rest := []) hx hb hml hown hts hK hW hS (c_Y_isPort l G b x1 z v1 z1 er1) f_Y_isPort t_617 ⟨rfl, rfl⟩ ⟨Nat.le_of_ble_eq_true rfl, Nat.le_of_ble_eq_true rfl⟩ (q_recv (L := LY) (kc := 0) (ki := 0) hK hW okY0 rfl rfl) rfl hl.1 rfl (Nat.le_of_ble_eq_true rfl) d_Y_deficit_2 (fun H locs hW hS => ?_)
  refine lv_if_eq (tgt := 16) hx hb d_Y_deficit_5 (by decide) (fun hc => ?_) (fun hc => ?_)
  · have h := ite_t h hc
    refine lv_iconst (v := (-1 : Int32)) hx hb d_Y_deficit_16 (by decide) ?_
    exact q_iret hx hb hr hlk hK hW hS h d_Y_deficit_17
  · have h := ite_f h hc
    refine lv_aload_n hx hb d_Y_deficit_8 rfl (lv_at hl 0 rfl) ?_
    refine lv_iload_n hx hb d_Y_deficit_9 rfl (lv_at hl 2 rfl) ?_
    obtain ⟨⟨v2, z2⟩, er2, h⟩ := bnd h
    refine q_callVi (C := "DeficitNetModel") (As := [.int x2]) (rest := []) hx hb hml hown hts hK hW hS (c_Y_isFlow l G b x2 z1 v2 z2 er2) f_Y_isFlow t_629 ⟨rfl, rfl⟩ ⟨Nat.le_of_ble_eq_true rfl, Nat.le_of_ble_eq_true rfl⟩ (q_recv (L := LY) (kc := 0) (ki := 0) hK hW okY0 rfl rfl) rfl hl.1 rfl (Nat.le_of_ble_eq_true rfl) d_Y_deficit_10 (fun H locs hW hS => ?_)
    refine lv_if_ne (tgt := 18) hx hb d_Y_deficit_13 (by decide) (fun hc => ?_) (fun hc => ?_)
    · have h := ite_f h hc
      refine lv_aload_n hx hb d_Y_deficit_18 rfl (lv_at hl 0 rfl) ?_
      refine lv_iload_n hx hb d_Y_deficit_19 rfl (lv_at hl 1 rfl) ?_
      refine lv_iload_n hx hb d_Y_deficit_20 rfl (lv_at hl 2 rfl) ?_
      obtain ⟨⟨v3, z3⟩, er3, h⟩ := bnd h
      refine q_callVi (C := "DeficitNetModel") (As := [.int x1, .int x2]) (rest := []) hx hb hml hown hts hK hW hS (c_Y_queued l G b x1 x2 z2 v3 z3 er3) f_Y_queued t_694 ⟨rfl, rfl⟩ ⟨Nat.le_of_ble_eq_true rfl, Nat.le_of_ble_eq_true rfl⟩ (q_recv (L := LY) (kc := 0) (ki := 0) hK hW okY0 rfl rfl) rfl hl.1 rfl (Nat.le_of_ble_eq_true rfl) d_Y_deficit_21 (fun H locs hW hS => ?_)
      refine lv_if_ne (tgt := 31) hx hb d_Y_deficit_24 (by decide) (fun hc => ?_) (fun hc => ?_)
      · have h := ite_f h hc
        refine lv_aload_n hx hb d_Y_deficit_31 rfl (lv_at hl 0 rfl) ?_
        refine q_get (L := LY) (kc := 0) (ki := 0) (C := "DeficitNetModel") (T := T_Y) (N := 40) (ci := 5) (v := .ref (ad LY b 32 0)) hx hb hts in_Y hown hK hW okY0 rfl rfl 33 (by decide) t_513 rfl d_Y_deficit_32 ?_
        refine lv_bipush (v := (6 : Int32)) hx hb d_Y_deficit_35 (by decide) ?_
        refine lv_iload_n hx hb d_Y_deficit_37 rfl (lv_at hl 1 rfl) ?_
        refine lv_imul hx hb d_Y_deficit_38 ?_
        refine lv_iload_n hx hb d_Y_deficit_39 rfl (lv_at hl 2 rfl) ?_
        refine lv_iadd hx hb d_Y_deficit_40 ?_
        obtain ⟨j4, ej4, h⟩ := bnd h
        refine q_iald (L := LY) (kc := 32) (ki := 0) hx hb hK hW okY32 rfl ej4 d_Y_deficit_41 ?_
        exact q_iret hx hb hr hlk hK hW hS h d_Y_deficit_42
      · have h := ite_t h hc
        refine lv_iconst (v := (0 : Int32)) hx hb d_Y_deficit_27 (by decide) ?_
        refine lv_goto (tgt := 42) hx hb d_Y_deficit_28 (by decide) ?_
        exact q_iret hx hb hr hlk hK hW hS h d_Y_deficit_42
    · have h := ite_t h hc
      refine lv_iconst (v := (-1 : Int32)) hx hb d_Y_deficit_16 (by decide) ?_
      exact q_iret hx hb hr hlk hK hW hS h d_Y_deficit_17
set_option maxHeartbeats 4000000 in
set_option maxRecDepth 100000 in
theorem c_Y_onPort (l : Launch) (G : GG) (b : Nat) (x1 : Int32) (z : Mem) (r0 : Int32) (z0 : Mem) (h : dn_Y_onPort x1 z = some (r0, z0)) : MtW l y_Y_onPort b_Y_onPort 3 (some .int) rm_Y_onPort LY G b [.ref (ad LY b 0 0), .int x1] z (QI LY G b r0 z0) := by
  refine mtW_of (by decide) (Nat.le_of_ble_eq_true rfl) ?_
  intro p e s m args below meth c ls H locs C hW hS hl
  obtain ⟨hx, hb, hml, hr, hown, hts, hlk, hK⟩ := C
  have hl : lv_has ls 3 [(0, .ref (ad LY b 0 0)), (1, .int x1)] := hl
  unfold dn_Y_onPort at h
  refine lv_aload_n hx hb d_Y_onPort_0 rfl (lv_at hl 0 rfl) ?_
  refine lv_iload_n hx hb d_Y_onPort_1 rfl (lv_at hl 1 rfl) ?_
  obtain ⟨⟨v1, z1⟩, er1, h⟩ := bnd h
  refine q_callVi (C := "DeficitNetModel") (As := [.int x1]) (rest := []) hx hb hml hown hts hK hW hS (c_Y_isPort l G b x1 z v1 z1 er1) f_Y_isPort t_617 ⟨rfl, rfl⟩ ⟨Nat.le_of_ble_eq_true rfl, Nat.le_of_ble_eq_true rfl⟩ (q_recv (L := LY) (kc := 0) (ki := 0) hK hW okY0 rfl rfl) rfl hl.1 rfl (Nat.le_of_ble_eq_true rfl) d_Y_onPort_2 (fun H locs hW hS => ?_)
  refine lv_if_eq (tgt := 16) hx hb d_Y_onPort_5 (by decide) (fun hc => ?_) (fun hc => ?_)
  · have h := ite_t h hc
    refine lv_iconst (v := (-1 : Int32)) hx hb d_Y_onPort_16 (by decide) ?_
    refine lv_istore_n hx hb d_Y_onPort_17 rfl hl (by decide) rfl (fun ls hl => ?_)
    have hl : lv_has ls 3 [(2, .int (-1 : Int32)), (0, .ref (ad LY b 0 0)), (1, .int x1)] := hl
    refine lv_iload_n hx hb d_Y_onPort_18 rfl (lv_at hl 0 rfl) ?_
    refine lv_iconst (v := (-1 : Int32)) hx hb d_Y_onPort_19 (by decide) ?_
    refine lv_icmp_ne (tgt := 27) hx hb d_Y_onPort_20 (by decide) (fun hc => ?_) (fun hc => ?_)
    · have h := ite_f h hc
      refine lv_sipush (v := (256 : Int32)) hx hb d_Y_onPort_27 (by decide) ?_
      refine lv_aload_n hx hb d_Y_onPort_30 rfl (lv_at hl 1 rfl) ?_
      refine q_get (L := LY) (kc := 0) (ki := 0) (C := "DeficitNetModel") (T := T_Y) (N := 40) (ci := 5) (v := .ref (ad LY b 25 0)) hx hb hts in_Y hown hK hW okY0 rfl rfl 26 (by decide) t_506 rfl d_Y_onPort_31 ?_
      refine lv_iload_n hx hb d_Y_onPort_34 rfl (lv_at hl 0 rfl) ?_
      obtain ⟨j2, ej2, h⟩ := bnd h
      refine q_iald (L := LY) (kc := 25) (ki := 0) hx hb hK hW okY25 rfl ej2 d_Y_onPort_35 ?_
      refine lv_imul hx hb d_Y_onPort_36 ?_
      refine lv_aload_n hx hb d_Y_onPort_37 rfl (lv_at hl 1 rfl) ?_
      refine q_get (L := LY) (kc := 0) (ki := 0) (C := "DeficitNetModel") (T := T_Y) (N := 40) (ci := 5) (v := .ref (ad LY b 26 0)) hx hb hts in_Y hown hK hW okY0 rfl rfl 27 (by decide) t_507 rfl d_Y_onPort_38 ?_
      refine lv_iload_n hx hb d_Y_onPort_41 rfl (lv_at hl 0 rfl) ?_
      obtain ⟨j3, ej3, h⟩ := bnd h
      refine q_iald (L := LY) (kc := 26) (ki := 0) hx hb hK hW okY26 rfl ej3 d_Y_onPort_42 ?_
      refine lv_iadd hx hb d_Y_onPort_43 ?_
      refine lv_aload_n hx hb d_Y_onPort_44 rfl (lv_at hl 1 rfl) ?_
      refine q_get (L := LY) (kc := 0) (ki := 0) (C := "DeficitNetModel") (T := T_Y) (N := 40) (ci := 5) (v := .ref (ad LY b 27 0)) hx hb hts in_Y hown hK hW okY0 rfl rfl 28 (by decide) t_508 rfl d_Y_onPort_45 ?_
      refine lv_iload_n hx hb d_Y_onPort_48 rfl (lv_at hl 0 rfl) ?_
      obtain ⟨j4, ej4, h⟩ := bnd h
      refine q_zald (L := LY) (kc := 27) (ki := 0) hx hb hK hW okY27 rfl ej4 d_Y_onPort_49 ?_
      refine lv_if_eq (tgt := 59) hx hb d_Y_onPort_50 (by decide) (fun hc => ?_) (fun hc => ?_)
      · have h := ite_t h hc
        refine lv_iconst (v := (0 : Int32)) hx hb d_Y_onPort_59 (by decide) ?_
        refine lv_iadd hx hb d_Y_onPort_60 ?_
        exact q_iret hx hb hr hlk hK hW hS h d_Y_onPort_61
      · have h := ite_f h hc
        refine lv_sipush (v := (128 : Int32)) hx hb d_Y_onPort_53 (by decide) ?_
        refine lv_goto (tgt := 60) hx hb d_Y_onPort_56 (by decide) ?_
        refine lv_iadd hx hb d_Y_onPort_60 ?_
        exact q_iret hx hb hr hlk hK hW hS h d_Y_onPort_61
    · have h := ite_t h hc
      refine lv_iconst (v := (-1 : Int32)) hx hb d_Y_onPort_23 (by decide) ?_
      refine lv_goto (tgt := 61) hx hb d_Y_onPort_24 (by decide) ?_
      exact q_iret hx hb hr hlk hK hW hS h d_Y_onPort_61
  · have h := ite_f h hc
    refine lv_aload_n hx hb d_Y_onPort_8 rfl (lv_at hl 0 rfl) ?_
    refine lv_iload_n hx hb d_Y_onPort_9 rfl (lv_at hl 1 rfl) ?_
    obtain ⟨⟨v5, z5⟩, er5, h⟩ := bnd h
    refine q_callVi (C := "DeficitNetModel") (As := [.int x1]) (rest := []) hx hb hml hown hts hK hW hS (c_Y_on l G b x1 z1 v5 z5 er5) f_Y_on t_702 ⟨rfl, rfl⟩ ⟨Nat.le_of_ble_eq_true rfl, Nat.le_of_ble_eq_true rfl⟩ (q_recv (L := LY) (kc := 0) (ki := 0) hK hW okY0 rfl rfl) rfl hl.1 rfl (Nat.le_of_ble_eq_true rfl) d_Y_onPort_10 (fun H locs hW hS => ?_)
    refine lv_goto (tgt := 17) hx hb d_Y_onPort_13 (by decide) ?_
    refine lv_istore_n hx hb d_Y_onPort_17 rfl hl (by decide) rfl (fun ls hl => ?_)
    have hl : lv_has ls 3 [(2, .int v5), (0, .ref (ad LY b 0 0)), (1, .int x1)] := hl
    refine lv_iload_n hx hb d_Y_onPort_18 rfl (lv_at hl 0 rfl) ?_
    refine lv_iconst (v := (-1 : Int32)) hx hb d_Y_onPort_19 (by decide) ?_
    refine lv_icmp_ne (tgt := 27) hx hb d_Y_onPort_20 (by decide) (fun hc => ?_) (fun hc => ?_)
    · have h := ite_f h hc
      refine lv_sipush (v := (256 : Int32)) hx hb d_Y_onPort_27 (by decide) ?_
      refine lv_aload_n hx hb d_Y_onPort_30 rfl (lv_at hl 1 rfl) ?_
      refine q_get (L := LY) (kc := 0) (ki := 0) (C := "DeficitNetModel") (T := T_Y) (N := 40) (ci := 5) (v := .ref (ad LY b 25 0)) hx hb hts in_Y hown hK hW okY0 rfl rfl 26 (by decide) t_506 rfl d_Y_onPort_31 ?_
      refine lv_iload_n hx hb d_Y_onPort_34 rfl (lv_at hl 0 rfl) ?_
      obtain ⟨j6, ej6, h⟩ := bnd h
      refine q_iald (L := LY) (kc := 25) (ki := 0) hx hb hK hW okY25 rfl ej6 d_Y_onPort_35 ?_
      refine lv_imul hx hb d_Y_onPort_36 ?_
      refine lv_aload_n hx hb d_Y_onPort_37 rfl (lv_at hl 1 rfl) ?_
      refine q_get (L := LY) (kc := 0) (ki := 0) (C := "DeficitNetModel") (T := T_Y) (N := 40) (ci := 5) (v := .ref (ad LY b 26 0)) hx hb hts in_Y hown hK hW okY0 rfl rfl 27 (by decide) t_507 rfl d_Y_onPort_38 ?_
      refine lv_iload_n hx hb d_Y_onPort_41 rfl (lv_at hl 0 rfl) ?_
      obtain ⟨j7, ej7, h⟩ := bnd h
      refine q_iald (L := LY) (kc := 26) (ki := 0) hx hb hK hW okY26 rfl ej7 d_Y_onPort_42 ?_
      refine lv_iadd hx hb d_Y_onPort_43 ?_
      refine lv_aload_n hx hb d_Y_onPort_44 rfl (lv_at hl 1 rfl) ?_
      refine q_get (L := LY) (kc := 0) (ki := 0) (C := "DeficitNetModel") (T := T_Y) (N := 40) (ci := 5) (v := .ref (ad LY b 27 0)) hx hb hts in_Y hown hK hW okY0 rfl rfl 28 (by decide) t_508 rfl d_Y_onPort_45 ?_
      refine lv_iload_n hx hb d_Y_onPort_48 rfl (lv_at hl 0 rfl) ?_
      obtain ⟨j8, ej8, h⟩ := bnd h
      refine q_zald (L := LY) (kc := 27) (ki := 0) hx hb hK hW okY27 rfl ej8 d_Y_onPort_49 ?_
      refine lv_if_eq (tgt := 59) hx hb d_Y_onPort_50 (by decide) (fun hc => ?_) (fun hc => ?_)
      · have h := ite_t h hc
        refine lv_iconst (v := (0 : Int32)) hx hb d_Y_onPort_59 (by decide) ?_
        refine lv_iadd hx hb d_Y_onPort_60 ?_
        exact q_iret hx hb hr hlk hK hW hS h d_Y_onPort_61
      · have h := ite_f h hc
        refine lv_sipush (v := (128 : Int32)) hx hb d_Y_onPort_53 (by decide) ?_
        refine lv_goto (tgt := 60) hx hb d_Y_onPort_56 (by decide) ?_
        refine lv_iadd hx hb d_Y_onPort_60 ?_
        exact q_iret hx hb hr hlk hK hW hS h d_Y_onPort_61
    · have h := ite_t h hc
      refine lv_iconst (v := (-1 : Int32)) hx hb d_Y_onPort_23 (by decide) ?_
      refine lv_goto (tgt := 61) hx hb d_Y_onPort_24 (by decide) ?_
      exact q_iret hx hb hr hlk hK hW hS h d_Y_onPort_61
set_option maxHeartbeats 4000000 in
set_option maxRecDepth 100000 in
theorem c_Y_timer (l : Launch) (G : GG) (b : Nat) (x1 : Int32) (z : Mem) (r0 : Int32) (z0 : Mem) (h : dn_Y_timer x1 z = some (r0, z0)) : MtW l y_Y_timer b_Y_timer 2 (some .int) rm_Y_timer LY G b [.ref (ad LY b 0 0), .int x1] z (QI LY G b r0 z0) := by
  refine mtW_of (by decide) (Nat.le_of_ble_eq_true rfl) ?_
  intro p e s m args below meth c ls H locs C hW hS hl
  obtain ⟨hx, hb, hml, hr, hown, hts, hlk, hK⟩ := C
  have hl : lv_has ls 2 [(0, .ref (ad LY b 0 0)), (1, .int x1)] := hl
  unfold dn_Y_timer at h
  refine lv_aload_n hx hb d_Y_timer_0 rfl (lv_at hl 0 rfl) ?_
  refine lv_iload_n hx hb d_Y_timer_1 rfl (lv_at hl 1 rfl) ?_
  obtain ⟨⟨v1, z1⟩, er1, h⟩ := bnd h
  refine q_callVi (C := "DeficitNetModel") (As := [.int x1]) (rest := []) hx hb hml hown hts hK hW hS (c_Y_isFlow l G b x1 z v1 z1 er1) f_Y_isFlow t_629 ⟨rfl, rfl⟩ ⟨Nat.le_of_ble_eq_true rfl, Nat.le_of_ble_eq_true rfl⟩ (q_recv (L := LY) (kc := 0) (ki := 0) hK hW okY0 rfl rfl) rfl hl.1 rfl (Nat.le_of_ble_eq_true rfl) d_Y_timer_2 (fun H locs hW hS => ?_)
  refine lv_if_eq (tgt := 17) hx hb d_Y_timer_5 (by decide) (fun hc => ?_) (fun hc => ?_)
  · have h := ite_t h hc
    refine lv_iconst (v := (-1 : Int32)) hx hb d_Y_timer_17 (by decide) ?_
    exact q_iret hx hb hr hlk hK hW hS h d_Y_timer_18
  · have h := ite_f h hc
    refine lv_aload_n hx hb d_Y_timer_8 rfl (lv_at hl 0 rfl) ?_
    refine q_get (L := LY) (kc := 0) (ki := 0) (C := "DeficitNetModel") (T := T_Y) (N := 40) (ci := 5) (v := .ref (ad LY b 21 0)) hx hb hts in_Y hown hK hW okY0 rfl rfl 22 (by decide) t_502 rfl d_Y_timer_9 ?_
    refine lv_iload_n hx hb d_Y_timer_12 rfl (lv_at hl 1 rfl) ?_
    obtain ⟨j2, ej2, h⟩ := bnd h
    refine q_iald (L := LY) (kc := 21) (ki := 0) hx hb hK hW okY21 rfl ej2 d_Y_timer_13 ?_
    refine lv_goto (tgt := 18) hx hb d_Y_timer_14 (by decide) ?_
    exact q_iret hx hb hr hlk hK hW hS h d_Y_timer_18
set_option maxHeartbeats 4000000 in
set_option maxRecDepth 100000 in
theorem c_Y_count (l : Launch) (G : GG) (b : Nat) (x1 : Int32) (x2 : Int32) (z : Mem) (r0 : Int32) (z0 : Mem) (h : dn_Y_count x1 x2 z = some (r0, z0)) : MtW l y_Y_count b_Y_count 3 (some .int) rm_Y_count LY G b [.ref (ad LY b 0 0), .int x1, .int x2] z (QI LY G b r0 z0) := by
  refine mtW_of (by decide) (Nat.le_of_ble_eq_true rfl) ?_
  intro p e s m args below meth c ls H locs C hW hS hl
  obtain ⟨hx, hb, hml, hr, hown, hts, hlk, hK⟩ := C
  have hl : lv_has ls 3 [(0, .ref (ad LY b 0 0)), (1, .int x1), (2, .int x2)] := hl
  unfold dn_Y_count at h
  refine lv_aload_n hx hb d_Y_count_0 rfl (lv_at hl 0 rfl) ?_
  refine lv_iload_n hx hb d_Y_count_1 rfl (lv_at hl 1 rfl) ?_
  obtain ⟨⟨v1, z1⟩, er1, h⟩ := bnd h
  refine q_callVi (C := "DeficitNetModel") (As := [.int x1]) (rest := []) hx hb hml hown hts hK hW hS (c_Y_isFlow l G b x1 z v1 z1 er1) f_Y_isFlow t_629 ⟨rfl, rfl⟩ ⟨Nat.le_of_ble_eq_true rfl, Nat.le_of_ble_eq_true rfl⟩ (q_recv (L := LY) (kc := 0) (ki := 0) hK hW okY0 rfl rfl) rfl hl.1 rfl (Nat.le_of_ble_eq_true rfl) d_Y_count_2 (fun H locs hW hS => ?_)
  refine lv_if_eq (tgt := 18) hx hb d_Y_count_5 (by decide) (fun hc => ?_) (fun hc => ?_)
  · have h := ite_t h hc
    refine lv_iconst (v := (-1 : Int32)) hx hb d_Y_count_18 (by decide) ?_
    exact q_iret hx hb hr hlk hK hW hS h d_Y_count_19
  · have h := ite_f h hc
    refine lv_iload_n hx hb d_Y_count_8 rfl (lv_at hl 2 rfl) ?_
    refine lv_if_lt (tgt := 18) hx hb d_Y_count_9 (by decide) (fun hc => ?_) (fun hc => ?_)
    · have h := ite_t h hc
      refine lv_iconst (v := (-1 : Int32)) hx hb d_Y_count_18 (by decide) ?_
      exact q_iret hx hb hr hlk hK hW hS h d_Y_count_19
    · have h := ite_f h hc
      refine lv_iload_n hx hb d_Y_count_12 rfl (lv_at hl 2 rfl) ?_
      refine lv_bipush (v := (6 : Int32)) hx hb d_Y_count_13 (by decide) ?_
      refine lv_icmp_le (tgt := 20) hx hb d_Y_count_15 (by decide) (fun hc => ?_) (fun hc => ?_)
      · have h := ite_t h hc
        refine lv_iload_n hx hb d_Y_count_20 rfl (lv_at hl 2 rfl) ?_
        refine lv_iconst (v := (3 : Int32)) hx hb d_Y_count_21 (by decide) ?_
        refine lv_icmp_ge (tgt := 59) hx hb d_Y_count_22 (by decide) (fun hc => ?_) (fun hc => ?_)
        · have h := ite_t h hc
          refine lv_aload_n hx hb d_Y_count_59 rfl (lv_at hl 0 rfl) ?_
          refine q_get (L := LY) (kc := 0) (ki := 0) (C := "DeficitNetModel") (T := T_Y) (N := 40) (ci := 5) (v := .ref (ad LY b 23 0)) hx hb hts in_Y hown hK hW okY0 rfl rfl 24 (by decide) t_504 rfl d_Y_count_60 ?_
          refine lv_iconst (v := (4 : Int32)) hx hb d_Y_count_63 (by decide) ?_
          refine lv_iload_n hx hb d_Y_count_64 rfl (lv_at hl 1 rfl) ?_
          refine lv_imul hx hb d_Y_count_65 ?_
          refine lv_iload_n hx hb d_Y_count_66 rfl (lv_at hl 2 rfl) ?_
          refine lv_iadd hx hb d_Y_count_67 ?_
          refine lv_iconst (v := (3 : Int32)) hx hb d_Y_count_68 (by decide) ?_
          refine lv_isub hx hb d_Y_count_69 ?_
          obtain ⟨j2, ej2, h⟩ := bnd h
          refine q_iald (L := LY) (kc := 23) (ki := 0) hx hb hK hW okY23 rfl ej2 d_Y_count_70 ?_
          exact q_iret hx hb hr hlk hK hW hS h d_Y_count_71
        · have h := ite_f h hc
          refine lv_iload_n hx hb d_Y_count_25 rfl (lv_at hl 2 rfl) ?_
          refine lv_if_ne (tgt := 38) hx hb d_Y_count_26 (by decide) (fun hc => ?_) (fun hc => ?_)
          · have h := ite_f h hc
            refine lv_iload_n hx hb d_Y_count_38 rfl (lv_at hl 2 rfl) ?_
            refine lv_iconst (v := (1 : Int32)) hx hb d_Y_count_39 (by decide) ?_
            refine lv_icmp_ne (tgt := 52) hx hb d_Y_count_40 (by decide) (fun hc => ?_) (fun hc => ?_)
            · have h := ite_f h hc
              refine lv_aload_n hx hb d_Y_count_52 rfl (lv_at hl 0 rfl) ?_
              refine q_get (L := LY) (kc := 0) (ki := 0) (C := "DeficitNetModel") (T := T_Y) (N := 40) (ci := 5) (v := .ref (ad LY b 18 0)) hx hb hts in_Y hown hK hW okY0 rfl rfl 19 (by decide) t_499 rfl d_Y_count_53 ?_
              refine lv_iload_n hx hb d_Y_count_56 rfl (lv_at hl 1 rfl) ?_
              obtain ⟨j3, ej3, h⟩ := bnd h
              refine q_iald (L := LY) (kc := 18) (ki := 0) hx hb hK hW okY18 rfl ej3 d_Y_count_57 ?_
              exact q_iret hx hb hr hlk hK hW hS h d_Y_count_58
            · have h := ite_t h hc
              refine lv_aload_n hx hb d_Y_count_43 rfl (lv_at hl 0 rfl) ?_
              refine q_get (L := LY) (kc := 0) (ki := 0) (C := "DeficitNetModel") (T := T_Y) (N := 40) (ci := 5) (v := .ref (ad LY b 17 0)) hx hb hts in_Y hown hK hW okY0 rfl rfl 18 (by decide) t_498 rfl d_Y_count_44 ?_
              refine lv_iload_n hx hb d_Y_count_47 rfl (lv_at hl 1 rfl) ?_
              obtain ⟨j4, ej4, h⟩ := bnd h
              refine q_iald (L := LY) (kc := 17) (ki := 0) hx hb hK hW okY17 rfl ej4 d_Y_count_48 ?_
              refine lv_goto (tgt := 58) hx hb d_Y_count_49 (by decide) ?_
              exact q_iret hx hb hr hlk hK hW hS h d_Y_count_58
          · have h := ite_t h hc
            refine lv_aload_n hx hb d_Y_count_29 rfl (lv_at hl 0 rfl) ?_
            refine q_get (L := LY) (kc := 0) (ki := 0) (C := "DeficitNetModel") (T := T_Y) (N := 40) (ci := 5) (v := .ref (ad LY b 16 0)) hx hb hts in_Y hown hK hW okY0 rfl rfl 17 (by decide) t_497 rfl d_Y_count_30 ?_
            refine lv_iload_n hx hb d_Y_count_33 rfl (lv_at hl 1 rfl) ?_
            obtain ⟨j5, ej5, h⟩ := bnd h
            refine q_iald (L := LY) (kc := 16) (ki := 0) hx hb hK hW okY16 rfl ej5 d_Y_count_34 ?_
            refine lv_goto (tgt := 58) hx hb d_Y_count_35 (by decide) ?_
            exact q_iret hx hb hr hlk hK hW hS h d_Y_count_58
      · have h := ite_f h hc
        refine lv_iconst (v := (-1 : Int32)) hx hb d_Y_count_18 (by decide) ?_
        exact q_iret hx hb hr hlk hK hW hS h d_Y_count_19
