set_option maxHeartbeats 4000000 in
set_option maxRecDepth 100000 in
theorem w_Y_begin_15 {p : Program} {l : Launch} {e : Env} {s : State} {m : MethodId} {args : Array Value} {below : List Frame} {meth : Method} {c : Code} {G : GG} {b : Nat} {z0 : Mem} (C : Cx y_Y_begin b_Y_begin 2 none p s m args meth c G) {k58 : Mem → Option Mem} 
    (hk58 : ∀  (z : Mem) (ls : Array Slot) (H : Heap) (locs : List Loc), Wd LY G b z H → va_S (rgL LY b) s.heap H locs → lv_has ls 2 [] → k58  z = some z0 → W p l e rm_Y_begin s m args below meth c H locs 0 0 (MQ below (QV LY G b z0) args s 0 0 (rgL LY b)) (F0 m 58 ls [])) :
    ∀ (n : Nat) (x1 : Int32) (z : Mem) (ls : Array Slot) (H : Heap) (locs : List Loc), Wd LY G b z H → va_S (rgL LY b) s.heap H locs → lv_has ls 2 [(0, .ref (ad LY b 0 0)), (1, .int x1)] → dn_Y_begin_15 k58 n x1 z = some z0 → W p l e rm_Y_begin s m args below meth c H locs 0 0 (MQ below (QV LY G b z0) args s 0 0 (rgL LY b)) (F0 m 15 ls []) := by
  obtain ⟨hx, hb, hml, hr, hown, hts, hlk, hK⟩ := C
  intro n
  induction n with
  | zero =>
    intro x1 z ls H locs  hW hS hl h
    cases h
  | succ n ih =>
    intro x1 z ls H locs  hW hS hl h
    rw [dn_Y_begin_15] at h
    refine lv_iload_n hx hb d_Y_begin_15 rfl (lv_at hl 1 rfl) ?_
    refine lv_aload_n hx hb d_Y_begin_16 rfl (lv_at hl 0 rfl) ?_
    refine q_get (L := LY) (kc := 0) (ki := 0) (C := "DeficitNetModel") (T := T_Y) (N := 40) (ci := 5) (v := .int (z.1 0 0 9)) hx hb hts in_Y hown hK hW okY0 rfl rfl 9 (by decide) t_489 rfl d_Y_begin_17 ?_
    refine lv_icmp_ge (tgt := 58) hx hb d_Y_begin_20 (by decide) (fun hc => ?_) (fun hc => ?_)
    · have h := ite_t h hc
      exact hk58  z ls H locs  hW hS (lv_sub hl [] rfl) h
    · have h := ite_f h hc
      refine lv_aload_n hx hb d_Y_begin_23 rfl (lv_at hl 0 rfl) ?_
      refine q_get (L := LY) (kc := 0) (ki := 0) (C := "DeficitNetModel") (T := T_Y) (N := 40) (ci := 5) (v := .ref (ad LY b 19 0)) hx hb hts in_Y hown hK hW okY0 rfl rfl 20 (by decide) t_500 rfl d_Y_begin_24 ?_
      refine lv_iload_n hx hb d_Y_begin_27 rfl (lv_at hl 1 rfl) ?_
      refine lv_aload_n hx hb d_Y_begin_28 rfl (lv_at hl 0 rfl) ?_
      refine q_get (L := LY) (kc := 0) (ki := 0) (C := "DeficitNetModel") (T := T_Y) (N := 40) (ci := 5) (v := .ref (ad LY b 15 0)) hx hb hts in_Y hown hK hW okY0 rfl rfl 16 (by decide) t_496 rfl d_Y_begin_29 ?_
      refine lv_iload_n hx hb d_Y_begin_32 rfl (lv_at hl 1 rfl) ?_
      obtain ⟨j3, ej3, h⟩ := bnd h
      refine q_iald (L := LY) (kc := 15) (ki := 0) hx hb hK hW okY15 rfl ej3 d_Y_begin_33 ?_
      obtain ⟨j4, ej4, h⟩ := bnd h
      refine q_iast (L := LY) (kc := 19) (ki := 0) hx hb hK hW hS okY19 (fun _ => rfl) ej4 d_Y_begin_34 (fun H locs z5 ez5 hW hS => ?_)
      have h := stM_n h ez5
      refine lv_aload_n hx hb d_Y_begin_35 rfl (lv_at hl 0 rfl) ?_
      refine q_get (L := LY) (kc := 0) (ki := 0) (C := "DeficitNetModel") (T := T_Y) (N := 40) (ci := 5) (v := .ref (ad LY b 20 0)) hx hb hts in_Y hown hK hW okY0 rfl rfl 21 (by decide) t_501 rfl d_Y_begin_36 ?_
      refine lv_iload_n hx hb d_Y_begin_39 rfl (lv_at hl 1 rfl) ?_
      refine lv_aload_n hx hb d_Y_begin_40 rfl (lv_at hl 0 rfl) ?_
      refine lv_dup hx hb d_Y_begin_41 rfl ?_
      refine q_get (L := LY) (kc := 0) (ki := 0) (C := "DeficitNetModel") (T := T_Y) (N := 40) (ci := 5) (v := .int (z5.1 0 0 37)) hx hb hts in_Y hown hK hW okY0 rfl rfl 37 (by decide) t_517 rfl d_Y_begin_42 ?_
      refine lv_iconst (v := (1 : Int32)) hx hb d_Y_begin_45 (by decide) ?_
      refine lv_iadd hx hb d_Y_begin_46 ?_
      refine lv_dup_x1 hx hb d_Y_begin_47 rfl rfl ?_
      refine q_put (L := LY) (kc := 0) (ki := 0) (C := "DeficitNetModel") (T := T_Y) (N := 40) (ci := 5) hx hb hts in_Y ty_Y tyok_Y nm_Y hown hK hW hS okY0 rfl rfl 37 (by decide) t_517 rfl rfl rfl (Nat.le_of_ble_eq_true rfl) rfl d_Y_begin_48 (fun H locs z6 ez6 hW hS => ?_)
      have h := stM_n h ez6
      obtain ⟨j7, ej7, h⟩ := bnd h
      refine q_iast (L := LY) (kc := 20) (ki := 0) hx hb hK hW hS okY20 (fun _ => rfl) ej7 d_Y_begin_51 (fun H locs z8 ez8 hW hS => ?_)
      have h := stM_n h ez8
      refine lv_iinc (k := 1) (v := (x1 + (1 : Int32))) hx hb d_Y_begin_52 hl rfl rfl (by decide) rfl (fun ls hl => ?_)
      have hl : lv_has ls 2 [(1, .int (x1 + (1 : Int32))), (0, .ref (ad LY b 0 0))] := hl
      refine lv_goto (tgt := 15) hx hb d_Y_begin_55 (by decide) ?_
      exact ih (x1 + (1 : Int32)) z8 ls H locs  hW hS (lv_sub hl [1, 0] rfl) h
set_option maxHeartbeats 4000000 in
set_option maxRecDepth 100000 in
theorem c_Y_begin (l : Launch) (G : GG) (b : Nat) (z : Mem) (z0 : Mem) (h : dn_Y_begin z = some z0) : MtW l y_Y_begin b_Y_begin 2 none rm_Y_begin LY G b [.ref (ad LY b 0 0)] z (QV LY G b z0) := by
  refine mtW_of (by decide) (Nat.le_of_ble_eq_true rfl) ?_
  intro p e s m args below meth c ls H locs C hW hS hl
  obtain ⟨hx, hb, hml, hr, hown, hts, hlk, hK⟩ := C
  have hl : lv_has ls 2 [(0, .ref (ad LY b 0 0))] := hl
  unfold dn_Y_begin at h
  refine lv_aload_n hx hb d_Y_begin_0 rfl (lv_at hl 0 rfl) ?_
  refine q_get (L := LY) (kc := 0) (ki := 0) (C := "DeficitNetModel") (T := T_Y) (N := 40) (ci := 5) (v := .int (z.1 0 0 35)) hx hb hts in_Y hown hK hW okY0 rfl rfl 35 (by decide) t_515 rfl d_Y_begin_1 ?_
  refine lv_if_eq (tgt := 8) hx hb d_Y_begin_4 (by decide) (fun hc => ?_) (fun hc => ?_)
  · have h := ite_t h hc
    refine lv_aload_n hx hb d_Y_begin_8 rfl (lv_at hl 0 rfl) ?_
    refine lv_iconst (v := (1 : Int32)) hx hb d_Y_begin_9 (by decide) ?_
    obtain ⟨_, u1, h⟩ := bnd h
    refine q_put (L := LY) (kc := 0) (ki := 0) (C := "DeficitNetModel") (T := T_Y) (N := 40) (ci := 5) hx hb hts in_Y ty_Y tyok_Y nm_Y hown hK hW hS okY0 rfl rfl 35 (by decide) t_515 rfl (bz_nar (bz_some u1)) (bz_fit (bz_some u1)) (Nat.le_of_ble_eq_true rfl) rfl d_Y_begin_10 (fun H locs z2 ez2 hW hS => ?_)
    have h := stM_n h ez2
    refine lv_iconst (v := (0 : Int32)) hx hb d_Y_begin_13 (by decide) ?_
    refine lv_istore_n hx hb d_Y_begin_14 rfl hl (by decide) rfl (fun ls hl => ?_)
    have hl : lv_has ls 2 [(1, .int (0 : Int32)), (0, .ref (ad LY b 0 0))] := hl
    refine w_Y_begin_15 ⟨hx, hb, hml, hr, hown, hts, hlk, hK⟩ (fun z9 ls H locs  hW hS hl h => ?_) FU (0 : Int32) z2 ls H locs  hW hS (lv_sub hl [1, 0] rfl) h
    · exact q_vret hx hb hr hlk hK hW hS h d_Y_begin_58
  · have h := ite_f h hc
    exact q_vret hx hb hr hlk hK hW hS h d_Y_begin_7
set_option maxHeartbeats 4000000 in
set_option maxRecDepth 100000 in
theorem c_Y_note (l : Launch) (G : GG) (b : Nat) (x1 : Int32) (x2 : Int32) (x3 : Int32) (z : Mem) (z0 : Mem) (h : dn_Y_note x1 x2 x3 z = some z0) : MtW l y_Y_note b_Y_note 4 none rm_Y_note LY G b [.ref (ad LY b 0 0), .int x1, .int x2, .int x3] z (QV LY G b z0) := by
  refine mtW_of (by decide) (Nat.le_of_ble_eq_true rfl) ?_
  intro p e s m args below meth c ls H locs C hW hS hl
  obtain ⟨hx, hb, hml, hr, hown, hts, hlk, hK⟩ := C
  have hl : lv_has ls 4 [(0, .ref (ad LY b 0 0)), (1, .int x1), (2, .int x2), (3, .int x3)] := hl
  unfold dn_Y_note at h
  refine lv_aload_n hx hb d_Y_note_0 rfl (lv_at hl 0 rfl) ?_
  refine q_get (L := LY) (kc := 0) (ki := 0) (C := "DeficitNetModel") (T := T_Y) (N := 40) (ci := 5) (v := .ref (ad LY b 34 0)) hx hb hts in_Y hown hK hW okY0 rfl rfl 39 (by decide) t_519 rfl d_Y_note_1 ?_
  refine lv_aload_n hx hb d_Y_note_4 rfl (lv_at hl 0 rfl) ?_
  refine q_get (L := LY) (kc := 0) (ki := 0) (C := "DeficitNetModel") (T := T_Y) (N := 40) (ci := 5) (v := .int (z.1 0 0 38)) hx hb hts in_Y hown hK hW okY0 rfl rfl 38 (by decide) t_518 rfl d_Y_note_5 ?_
  refine lv_bipush (v := (16 : Int32)) hx hb d_Y_note_8 (by decide) ?_
  refine lv_irem hx hb d_Y_note_10 (by decide) ?_
  refine lv_aload_n hx hb d_Y_note_11 rfl (lv_at hl 0 rfl) ?_
  refine q_get (L := LY) (kc := 0) (ki := 0) (C := "DeficitNetModel") (T := T_Y) (N := 40) (ci := 5) (v := .int (z.1 0 0 36)) hx hb hts in_Y hown hK hW okY0 rfl rfl 36 (by decide) t_516 rfl d_Y_note_12 ?_
  refine lv_i2l hx hb d_Y_note_15 rfl ?_
  refine lv_ldc2 (v := (1048576 : Int64)) hx hb hown (hts _ t_670) d_Y_note_16 ?_
  refine lv_lmul hx hb d_Y_note_19 ?_
  refine lv_iload_n hx hb d_Y_note_20 rfl (lv_at hl 1 rfl) ?_
  refine lv_i2l hx hb d_Y_note_21 rfl ?_
  refine lv_ldc2 (v := (65536 : Int64)) hx hb hown (hts _ t_671) d_Y_note_22 ?_
  refine lv_lmul hx hb d_Y_note_25 ?_
  refine lv_ladd hx hb d_Y_note_26 ?_
  refine lv_iload_n hx hb d_Y_note_27 rfl (lv_at hl 2 rfl) ?_
  refine lv_i2l hx hb d_Y_note_28 rfl ?_
  refine lv_ldc2 (v := (256 : Int64)) hx hb hown (hts _ t_672) d_Y_note_29 ?_
  refine lv_lmul hx hb d_Y_note_32 ?_
  refine lv_ladd hx hb d_Y_note_33 ?_
  refine lv_iload_n hx hb d_Y_note_34 rfl (lv_at hl 3 rfl) ?_
  refine lv_i2l hx hb d_Y_note_35 rfl ?_
  refine lv_ladd hx hb d_Y_note_36 ?_
  obtain ⟨j1, ej1, h⟩ := bnd h
  refine q_last (L := LY) (kl := 34) hx hb hK hW hS lnY (fun _ => rfl) ej1 d_Y_note_37 (fun H locs z2 ez2 hW hS => ?_)
  have h := stM_n h ez2
  refine lv_aload_n hx hb d_Y_note_38 rfl (lv_at hl 0 rfl) ?_
  refine lv_dup hx hb d_Y_note_39 rfl ?_
  refine q_get (L := LY) (kc := 0) (ki := 0) (C := "DeficitNetModel") (T := T_Y) (N := 40) (ci := 5) (v := .int (z2.1 0 0 38)) hx hb hts in_Y hown hK hW okY0 rfl rfl 38 (by decide) t_518 rfl d_Y_note_40 ?_
  refine lv_iconst (v := (1 : Int32)) hx hb d_Y_note_43 (by decide) ?_
  refine lv_iadd hx hb d_Y_note_44 ?_
  refine q_put (L := LY) (kc := 0) (ki := 0) (C := "DeficitNetModel") (T := T_Y) (N := 40) (ci := 5) hx hb hts in_Y ty_Y tyok_Y nm_Y hown hK hW hS okY0 rfl rfl 38 (by decide) t_518 rfl rfl rfl (Nat.le_of_ble_eq_true rfl) rfl d_Y_note_45 (fun H locs z3 ez3 hW hS => ?_)
  have h := stM_n h ez3
  exact q_vret hx hb hr hlk hK hW hS h d_Y_note_48
set_option maxHeartbeats 4000000 in
set_option maxRecDepth 100000 in
theorem c_Y_sooner (l : Launch) (x0 : Int64) (x2 : Int32) (x3 : Int32) (r0 : Int64) (h : dn_Y_sooner x0 x2 x3 = some r0) : MtP l y_Y_sooner b_Y_sooner 6 (some .long) rm_Y_sooner [.long x0, .int x2, .int x3] (QPJ r0) := by
  refine mtP_of (by decide) (Nat.le_of_ble_eq_true rfl) ?_
  intro p e s m args below meth c ls C hl
  obtain ⟨hx, hb, hml, hr, hown, hts, hlk⟩ := C
  have hl : lv_has ls 6 [(0, .long x0), (2, .int x2), (3, .int x3)] := hl
  unfold dn_Y_sooner at h
  refine lv_iload_n hx hb d_Y_sooner_0 rfl (lv_at hl 1 rfl) ?_
  refine lv_i2l hx hb d_Y_sooner_1 rfl ?_
  refine lv_ldc2 (v := (4294967296 : Int64)) hx hb hown (hts _ t_665) d_Y_sooner_2 ?_
  refine lv_lmul hx hb d_Y_sooner_5 ?_
  refine lv_iload_n hx hb d_Y_sooner_6 rfl (lv_at hl 2 rfl) ?_
  refine lv_i2l hx hb d_Y_sooner_7 rfl ?_
  refine lv_ladd hx hb d_Y_sooner_8 ?_
  refine lv_topl (fun v1 ev1 => ?_)
  have h := stV_n h ev1
  refine lv_lstore hx hb d_Y_sooner_9 hl (by decide) rfl (fun ls hl => ?_)
  have hl : lv_has ls 6 [(4, .long v1), (0, .long x0), (2, .int x2), (3, .int x3)] := hl
  refine lv_lload_n hx hb d_Y_sooner_11 rfl (lv_at hl 1 rfl) ?_
  refine lv_lconst (v := (0 : Int64)) hx hb d_Y_sooner_12 (by decide) ?_
  refine W.lcmp hx hb d_Y_sooner_13 ?_
  refine lv_if_eq (tgt := 24) hx hb d_Y_sooner_14 (by decide) (fun hc => ?_) (fun hc => ?_)
  · have h := ite_t h hc
    refine lv_lload hx hb d_Y_sooner_24 (lv_at hl 0 rfl) ?_
    refine lv_goto (tgt := 30) hx hb d_Y_sooner_26 (by decide) ?_
    exact q_jretP hx hb hr hlk h d_Y_sooner_30
  · have h := ite_f h hc
    refine lv_lload hx hb d_Y_sooner_17 (lv_at hl 0 rfl) ?_
    refine lv_lload_n hx hb d_Y_sooner_19 rfl (lv_at hl 1 rfl) ?_
    refine W.lcmp hx hb d_Y_sooner_20 ?_
    refine lv_if_ge (tgt := 29) hx hb d_Y_sooner_21 (by decide) (fun hc => ?_) (fun hc => ?_)
    · have h := ite_t h hc
      refine lv_lload_n hx hb d_Y_sooner_29 rfl (lv_at hl 1 rfl) ?_
      exact q_jretP hx hb hr hlk h d_Y_sooner_30
    · have h := ite_f h hc
      refine lv_lload hx hb d_Y_sooner_24 (lv_at hl 0 rfl) ?_
      refine lv_goto (tgt := 30) hx hb d_Y_sooner_26 (by decide) ?_
      exact q_jretP hx hb hr hlk h d_Y_sooner_30
set_option maxHeartbeats 4000000 in
set_option maxRecDepth 100000 in
theorem w_Y_soonest_4 {p : Program} {l : Launch} {e : Env} {s : State} {m : MethodId} {args : Array Value} {below : List Frame} {meth : Method} {c : Code} {G : GG} {b : Nat} {r0 : Int64} {z0 : Mem} (C : Cx y_Y_soonest b_Y_soonest 4 (some .long) p s m args meth c G) {k43 : Int64 → Mem → Option (Int64 × Mem)} 
    (hk43 : ∀ (x1 : Int64) (z : Mem) (ls : Array Slot) (H : Heap) (locs : List Loc), Wd LY G b z H → va_S (rgL LY b) s.heap H locs → lv_has ls 4 [(0, .ref (ad LY b 0 0)), (1, .long x1)] → k43 x1 z = some (r0, z0) → W p l e rm_Y_soonest s m args below meth c H locs 0 0 (MQ below (QJ LY G b r0 z0) args s 0 0 (rgL LY b)) (F0 m 43 ls [])) :
    ∀ (n : Nat) (x1 : Int64) (x3 : Int32) (z : Mem) (ls : Array Slot) (H : Heap) (locs : List Loc), Wd LY G b z H → va_S (rgL LY b) s.heap H locs → lv_has ls 4 [(0, .ref (ad LY b 0 0)), (1, .long x1), (3, .int x3)] → dn_Y_soonest_4 k43 n x1 x3 z = some (r0, z0) → W p l e rm_Y_soonest s m args below meth c H locs 0 0 (MQ below (QJ LY G b r0 z0) args s 0 0 (rgL LY b)) (F0 m 4 ls []) := by
  obtain ⟨hx, hb, hml, hr, hown, hts, hlk, hK⟩ := C
  intro n
  induction n with
  | zero =>
    intro x1 x3 z ls H locs  hW hS hl h
    cases h
  | succ n ih =>
    intro x1 x3 z ls H locs  hW hS hl h
    rw [dn_Y_soonest_4] at h
    refine lv_iload_n hx hb d_Y_soonest_4 rfl (lv_at hl 2 rfl) ?_
    refine lv_bipush (v := (64 : Int32)) hx hb d_Y_soonest_5 (by decide) ?_
    refine lv_icmp_ge (tgt := 43) hx hb d_Y_soonest_7 (by decide) (fun hc => ?_) (fun hc => ?_)
    · have h := ite_t h hc
      exact hk43 x1 z ls H locs  hW hS (lv_sub hl [0, 1] rfl) h
    · have h := ite_f h hc
      refine lv_aload_n hx hb d_Y_soonest_10 rfl (lv_at hl 0 rfl) ?_
      refine q_get (L := LY) (kc := 0) (ki := 0) (C := "DeficitNetModel") (T := T_Y) (N := 40) (ci := 5) (v := .ref (ad LY b 24 0)) hx hb hts in_Y hown hK hW okY0 rfl rfl 25 (by decide) t_505 rfl d_Y_soonest_11 ?_
      refine lv_iload_n hx hb d_Y_soonest_14 rfl (lv_at hl 2 rfl) ?_
      obtain ⟨j1, ej1, h⟩ := bnd h
      refine q_iald (L := LY) (kc := 24) (ki := 0) hx hb hK hW okY24 rfl ej1 d_Y_soonest_15 ?_
      refine lv_iconst (v := (2 : Int32)) hx hb d_Y_soonest_16 (by decide) ?_
      refine lv_icmp_lt (tgt := 37) hx hb d_Y_soonest_17 (by decide) (fun hc => ?_) (fun hc => ?_)
      · have h := ite_t h hc
        refine lv_iinc (k := 2) (v := (x3 + (1 : Int32))) hx hb d_Y_soonest_37 hl rfl rfl (by decide) rfl (fun ls hl => ?_)
        have hl : lv_has ls 4 [(3, .int (x3 + (1 : Int32))), (0, .ref (ad LY b 0 0)), (1, .long x1)] := hl
        refine lv_goto (tgt := 4) hx hb d_Y_soonest_40 (by decide) ?_
        exact ih x1 (x3 + (1 : Int32)) z ls H locs  hW hS (lv_sub hl [1, 2, 0] rfl) h
      · have h := ite_f h hc
        refine lv_lload_n hx hb d_Y_soonest_20 rfl (lv_at hl 1 rfl) ?_
        refine lv_aload_n hx hb d_Y_soonest_21 rfl (lv_at hl 0 rfl) ?_
        refine q_get (L := LY) (kc := 0) (ki := 0) (C := "DeficitNetModel") (T := T_Y) (N := 40) (ci := 5) (v := .ref (ad LY b 29 0)) hx hb hts in_Y hown hK hW okY0 rfl rfl 30 (by decide) t_510 rfl d_Y_soonest_22 ?_
        refine lv_iload_n hx hb d_Y_soonest_25 rfl (lv_at hl 2 rfl) ?_
        obtain ⟨j2, ej2, h⟩ := bnd h
        refine q_iald (L := LY) (kc := 29) (ki := 0) hx hb hK hW okY29 rfl ej2 d_Y_soonest_26 ?_
        refine lv_aload_n hx hb d_Y_soonest_27 rfl (lv_at hl 0 rfl) ?_
        refine q_get (L := LY) (kc := 0) (ki := 0) (C := "DeficitNetModel") (T := T_Y) (N := 40) (ci := 5) (v := .ref (ad LY b 30 0)) hx hb hts in_Y hown hK hW okY0 rfl rfl 31 (by decide) t_511 rfl d_Y_soonest_28 ?_
        refine lv_iload_n hx hb d_Y_soonest_31 rfl (lv_at hl 2 rfl) ?_
        obtain ⟨j3, ej3, h⟩ := bnd h
        refine q_iald (L := LY) (kc := 30) (ki := 0) hx hb hK hW okY30 rfl ej3 d_Y_soonest_32 ?_
        obtain ⟨v4, ev4, h⟩ := bnd h
        refine q_callPj (As := [.long x1, .int (z.1 29 0 j2), .int (z.1 30 0 j3)]) (rest := []) hx hb hml hown hts hW hS (c_Y_sooner l x1 (z.1 29 0 j2) (z.1 30 0 j3) v4 ev4) f_Y_sooner t_662 ⟨rfl, rfl⟩ ⟨Nat.le_of_ble_eq_true rfl, Nat.le_of_ble_eq_true rfl⟩ rfl hl.1 rfl (Nat.le_of_ble_eq_true rfl) d_Y_soonest_33 (fun H locs hW hS => ?_)
        refine lv_lstore_n hx hb d_Y_soonest_36 rfl hl (by decide) rfl (fun ls hl => ?_)
        have hl : lv_has ls 4 [(1, .long v4), (0, .ref (ad LY b 0 0)), (3, .int x3)] := hl
        refine lv_iinc (k := 2) (v := (x3 + (1 : Int32))) hx hb d_Y_soonest_37 hl rfl rfl (by decide) rfl (fun ls hl => ?_)
        have hl : lv_has ls 4 [(3, .int (x3 + (1 : Int32))), (1, .long v4), (0, .ref (ad LY b 0 0))] := hl
        refine lv_goto (tgt := 4) hx hb d_Y_soonest_40 (by decide) ?_
        exact ih v4 (x3 + (1 : Int32)) z ls H locs  hW hS (lv_sub hl [2, 1, 0] rfl) h
set_option maxHeartbeats 4000000 in
set_option maxRecDepth 100000 in
theorem w_Y_soonest_45 {p : Program} {l : Launch} {e : Env} {s : State} {m : MethodId} {args : Array Value} {below : List Frame} {meth : Method} {c : Code} {G : GG} {b : Nat} {r0 : Int64} {z0 : Mem} (C : Cx y_Y_soonest b_Y_soonest 4 (some .long) p s m args meth c G) {k113 : Int64 → Mem → Option (Int64 × Mem)} 
    (hk113 : ∀ (x1 : Int64) (z : Mem) (ls : Array Slot) (H : Heap) (locs : List Loc), Wd LY G b z H → va_S (rgL LY b) s.heap H locs → lv_has ls 4 [(1, .long x1)] → k113 x1 z = some (r0, z0) → W p l e rm_Y_soonest s m args below meth c H locs 0 0 (MQ below (QJ LY G b r0 z0) args s 0 0 (rgL LY b)) (F0 m 113 ls [])) :
    ∀ (n : Nat) (x1 : Int64) (x3 : Int32) (z : Mem) (ls : Array Slot) (H : Heap) (locs : List Loc), Wd LY G b z H → va_S (rgL LY b) s.heap H locs → lv_has ls 4 [(0, .ref (ad LY b 0 0)), (1, .long x1), (3, .int x3)] → dn_Y_soonest_45 k113 n x1 x3 z = some (r0, z0) → W p l e rm_Y_soonest s m args below meth c H locs 0 0 (MQ below (QJ LY G b r0 z0) args s 0 0 (rgL LY b)) (F0 m 45 ls []) := by
  obtain ⟨hx, hb, hml, hr, hown, hts, hlk, hK⟩ := C
  intro n
  induction n with
  | zero =>
    intro x1 x3 z ls H locs  hW hS hl h
    cases h
  | succ n ih =>
    intro x1 x3 z ls H locs  hW hS hl h
    rw [dn_Y_soonest_45] at h
    refine lv_iload_n hx hb d_Y_soonest_45 rfl (lv_at hl 2 rfl) ?_
    refine lv_aload_n hx hb d_Y_soonest_46 rfl (lv_at hl 0 rfl) ?_
    refine q_get (L := LY) (kc := 0) (ki := 0) (C := "DeficitNetModel") (T := T_Y) (N := 40) (ci := 5) (v := .int (z.1 0 0 9)) hx hb hts in_Y hown hK hW okY0 rfl rfl 9 (by decide) t_489 rfl d_Y_soonest_47 ?_
    refine lv_icmp_ge (tgt := 113) hx hb d_Y_soonest_50 (by decide) (fun hc => ?_) (fun hc => ?_)
    · have h := ite_t h hc
      exact hk113 x1 z ls H locs  hW hS (lv_sub hl [1] rfl) h
    · have h := ite_f h hc
      refine lv_aload_n hx hb d_Y_soonest_53 rfl (lv_at hl 0 rfl) ?_
      refine q_get (L := LY) (kc := 0) (ki := 0) (C := "DeficitNetModel") (T := T_Y) (N := 40) (ci := 5) (v := .ref (ad LY b 19 0)) hx hb hts in_Y hown hK hW okY0 rfl rfl 20 (by decide) t_500 rfl d_Y_soonest_54 ?_
      refine lv_iload_n hx hb d_Y_soonest_57 rfl (lv_at hl 2 rfl) ?_
      obtain ⟨j6, ej6, h⟩ := bnd h
      refine q_iald (L := LY) (kc := 19) (ki := 0) hx hb hK hW okY19 rfl ej6 d_Y_soonest_58 ?_
      refine lv_iconst (v := (-1 : Int32)) hx hb d_Y_soonest_59 (by decide) ?_
      refine lv_icmp_eq (tgt := 80) hx hb d_Y_soonest_60 (by decide) (fun hc => ?_) (fun hc => ?_)
      · have h := ite_t h hc
        refine lv_aload_n hx hb d_Y_soonest_80 rfl (lv_at hl 0 rfl) ?_
        refine q_get (L := LY) (kc := 0) (ki := 0) (C := "DeficitNetModel") (T := T_Y) (N := 40) (ci := 5) (v := .ref (ad LY b 21 0)) hx hb hts in_Y hown hK hW okY0 rfl rfl 22 (by decide) t_502 rfl d_Y_soonest_81 ?_
        refine lv_iload_n hx hb d_Y_soonest_84 rfl (lv_at hl 2 rfl) ?_
        obtain ⟨j7, ej7, h⟩ := bnd h
        refine q_iald (L := LY) (kc := 21) (ki := 0) hx hb hK hW okY21 rfl ej7 d_Y_soonest_85 ?_
        refine lv_iconst (v := (-1 : Int32)) hx hb d_Y_soonest_86 (by decide) ?_
        refine lv_icmp_eq (tgt := 107) hx hb d_Y_soonest_87 (by decide) (fun hc => ?_) (fun hc => ?_)
        · have h := ite_t h hc
          refine lv_iinc (k := 2) (v := (x3 + (1 : Int32))) hx hb d_Y_soonest_107 hl rfl rfl (by decide) rfl (fun ls hl => ?_)
          have hl : lv_has ls 4 [(3, .int (x3 + (1 : Int32))), (0, .ref (ad LY b 0 0)), (1, .long x1)] := hl
          refine lv_goto (tgt := 45) hx hb d_Y_soonest_110 (by decide) ?_
          exact ih x1 (x3 + (1 : Int32)) z ls H locs  hW hS (lv_sub hl [1, 2, 0] rfl) h
        · have h := ite_f h hc
          refine lv_lload_n hx hb d_Y_soonest_90 rfl (lv_at hl 1 rfl) ?_
          refine lv_aload_n hx hb d_Y_soonest_91 rfl (lv_at hl 0 rfl) ?_
          refine q_get (L := LY) (kc := 0) (ki := 0) (C := "DeficitNetModel") (T := T_Y) (N := 40) (ci := 5) (v := .ref (ad LY b 21 0)) hx hb hts in_Y hown hK hW okY0 rfl rfl 22 (by decide) t_502 rfl d_Y_soonest_92 ?_
          refine lv_iload_n hx hb d_Y_soonest_95 rfl (lv_at hl 2 rfl) ?_
          obtain ⟨j8, ej8, h⟩ := bnd h
          refine q_iald (L := LY) (kc := 21) (ki := 0) hx hb hK hW okY21 rfl ej8 d_Y_soonest_96 ?_
          refine lv_aload_n hx hb d_Y_soonest_97 rfl (lv_at hl 0 rfl) ?_
          refine q_get (L := LY) (kc := 0) (ki := 0) (C := "DeficitNetModel") (T := T_Y) (N := 40) (ci := 5) (v := .ref (ad LY b 22 0)) hx hb hts in_Y hown hK hW okY0 rfl rfl 23 (by decide) t_503 rfl d_Y_soonest_98 ?_
          refine lv_iload_n hx hb d_Y_soonest_101 rfl (lv_at hl 2 rfl) ?_
          obtain ⟨j9, ej9, h⟩ := bnd h
          refine q_iald (L := LY) (kc := 22) (ki := 0) hx hb hK hW okY22 rfl ej9 d_Y_soonest_102 ?_
          obtain ⟨v10, ev10, h⟩ := bnd h
          refine q_callPj (As := [.long x1, .int (z.1 21 0 j8), .int (z.1 22 0 j9)]) (rest := []) hx hb hml hown hts hW hS (c_Y_sooner l x1 (z.1 21 0 j8) (z.1 22 0 j9) v10 ev10) f_Y_sooner t_662 ⟨rfl, rfl⟩ ⟨Nat.le_of_ble_eq_true rfl, Nat.le_of_ble_eq_true rfl⟩ rfl hl.1 rfl (Nat.le_of_ble_eq_true rfl) d_Y_soonest_103 (fun H locs hW hS => ?_)
          refine lv_lstore_n hx hb d_Y_soonest_106 rfl hl (by decide) rfl (fun ls hl => ?_)
          have hl : lv_has ls 4 [(1, .long v10), (0, .ref (ad LY b 0 0)), (3, .int x3)] := hl
          refine lv_iinc (k := 2) (v := (x3 + (1 : Int32))) hx hb d_Y_soonest_107 hl rfl rfl (by decide) rfl (fun ls hl => ?_)
          have hl : lv_has ls 4 [(3, .int (x3 + (1 : Int32))), (1, .long v10), (0, .ref (ad LY b 0 0))] := hl
          refine lv_goto (tgt := 45) hx hb d_Y_soonest_110 (by decide) ?_
          exact ih v10 (x3 + (1 : Int32)) z ls H locs  hW hS (lv_sub hl [2, 1, 0] rfl) h
      · have h := ite_f h hc
        refine lv_lload_n hx hb d_Y_soonest_63 rfl (lv_at hl 1 rfl) ?_
        refine lv_aload_n hx hb d_Y_soonest_64 rfl (lv_at hl 0 rfl) ?_
        refine q_get (L := LY) (kc := 0) (ki := 0) (C := "DeficitNetModel") (T := T_Y) (N := 40) (ci := 5) (v := .ref (ad LY b 19 0)) hx hb hts in_Y hown hK hW okY0 rfl rfl 20 (by decide) t_500 rfl d_Y_soonest_65 ?_
        refine lv_iload_n hx hb d_Y_soonest_68 rfl (lv_at hl 2 rfl) ?_
        obtain ⟨j11, ej11, h⟩ := bnd h
        refine q_iald (L := LY) (kc := 19) (ki := 0) hx hb hK hW okY19 rfl ej11 d_Y_soonest_69 ?_
        refine lv_aload_n hx hb d_Y_soonest_70 rfl (lv_at hl 0 rfl) ?_
        refine q_get (L := LY) (kc := 0) (ki := 0) (C := "DeficitNetModel") (T := T_Y) (N := 40) (ci := 5) (v := .ref (ad LY b 20 0)) hx hb hts in_Y hown hK hW okY0 rfl rfl 21 (by decide) t_501 rfl d_Y_soonest_71 ?_
        refine lv_iload_n hx hb d_Y_soonest_74 rfl (lv_at hl 2 rfl) ?_
        obtain ⟨j12, ej12, h⟩ := bnd h
        refine q_iald (L := LY) (kc := 20) (ki := 0) hx hb hK hW okY20 rfl ej12 d_Y_soonest_75 ?_
        obtain ⟨v13, ev13, h⟩ := bnd h
        refine q_callPj (As := [.long x1, .int (z.1 19 0 j11), .int (z.1 20 0 j12)]) (rest := []) hx hb hml hown hts hW hS (c_Y_sooner l x1 (z.1 19 0 j11) (z.1 20 0 j12) v13 ev13) f_Y_sooner t_662 ⟨rfl, rfl⟩ ⟨Nat.le_of_ble_eq_true rfl, Nat.le_of_ble_eq_true rfl⟩ rfl hl.1 rfl (Nat.le_of_ble_eq_true rfl) d_Y_soonest_76 (fun H locs hW hS => ?_)
        refine lv_lstore_n hx hb d_Y_soonest_79 rfl hl (by decide) rfl (fun ls hl => ?_)
        have hl : lv_has ls 4 [(1, .long v13), (0, .ref (ad LY b 0 0)), (3, .int x3)] := hl
        refine lv_aload_n hx hb d_Y_soonest_80 rfl (lv_at hl 1 rfl) ?_
        refine q_get (L := LY) (kc := 0) (ki := 0) (C := "DeficitNetModel") (T := T_Y) (N := 40) (ci := 5) (v := .ref (ad LY b 21 0)) hx hb hts in_Y hown hK hW okY0 rfl rfl 22 (by decide) t_502 rfl d_Y_soonest_81 ?_
        refine lv_iload_n hx hb d_Y_soonest_84 rfl (lv_at hl 2 rfl) ?_
        obtain ⟨j14, ej14, h⟩ := bnd h
        refine q_iald (L := LY) (kc := 21) (ki := 0) hx hb hK hW okY21 rfl ej14 d_Y_soonest_85 ?_
        refine lv_iconst (v := (-1 : Int32)) hx hb d_Y_soonest_86 (by decide) ?_
        refine lv_icmp_eq (tgt := 107) hx hb d_Y_soonest_87 (by decide) (fun hc => ?_) (fun hc => ?_)
        · have h := ite_t h hc
          refine lv_iinc (k := 2) (v := (x3 + (1 : Int32))) hx hb d_Y_soonest_107 hl rfl rfl (by decide) rfl (fun ls hl => ?_)
          have hl : lv_has ls 4 [(3, .int (x3 + (1 : Int32))), (1, .long v13), (0, .ref (ad LY b 0 0))] := hl
          refine lv_goto (tgt := 45) hx hb d_Y_soonest_110 (by decide) ?_
          exact ih v13 (x3 + (1 : Int32)) z ls H locs  hW hS (lv_sub hl [2, 1, 0] rfl) h
        · have h := ite_f h hc
          refine lv_lload_n hx hb d_Y_soonest_90 rfl (lv_at hl 0 rfl) ?_
          refine lv_aload_n hx hb d_Y_soonest_91 rfl (lv_at hl 1 rfl) ?_
          refine q_get (L := LY) (kc := 0) (ki := 0) (C := "DeficitNetModel") (T := T_Y) (N := 40) (ci := 5) (v := .ref (ad LY b 21 0)) hx hb hts in_Y hown hK hW okY0 rfl rfl 22 (by decide) t_502 rfl d_Y_soonest_92 ?_
          refine lv_iload_n hx hb d_Y_soonest_95 rfl (lv_at hl 2 rfl) ?_
          obtain ⟨j15, ej15, h⟩ := bnd h
          refine q_iald (L := LY) (kc := 21) (ki := 0) hx hb hK hW okY21 rfl ej15 d_Y_soonest_96 ?_
          refine lv_aload_n hx hb d_Y_soonest_97 rfl (lv_at hl 1 rfl) ?_
          refine q_get (L := LY) (kc := 0) (ki := 0) (C := "DeficitNetModel") (T := T_Y) (N := 40) (ci := 5) (v := .ref (ad LY b 22 0)) hx hb hts in_Y hown hK hW okY0 rfl rfl 23 (by decide) t_503 rfl d_Y_soonest_98 ?_
          refine lv_iload_n hx hb d_Y_soonest_101 rfl (lv_at hl 2 rfl) ?_
          obtain ⟨j16, ej16, h⟩ := bnd h
          refine q_iald (L := LY) (kc := 22) (ki := 0) hx hb hK hW okY22 rfl ej16 d_Y_soonest_102 ?_
          obtain ⟨v17, ev17, h⟩ := bnd h
          refine q_callPj (As := [.long v13, .int (z.1 21 0 j15), .int (z.1 22 0 j16)]) (rest := []) hx hb hml hown hts hW hS (c_Y_sooner l v13 (z.1 21 0 j15) (z.1 22 0 j16) v17 ev17) f_Y_sooner t_662 ⟨rfl, rfl⟩ ⟨Nat.le_of_ble_eq_true rfl, Nat.le_of_ble_eq_true rfl⟩ rfl hl.1 rfl (Nat.le_of_ble_eq_true rfl) d_Y_soonest_103 (fun H locs hW hS => ?_)
          refine lv_lstore_n hx hb d_Y_soonest_106 rfl hl (by decide) rfl (fun ls hl => ?_)
          have hl : lv_has ls 4 [(1, .long v17), (0, .ref (ad LY b 0 0)), (3, .int x3)] := hl
          refine lv_iinc (k := 2) (v := (x3 + (1 : Int32))) hx hb d_Y_soonest_107 hl rfl rfl (by decide) rfl (fun ls hl => ?_)
          have hl : lv_has ls 4 [(3, .int (x3 + (1 : Int32))), (1, .long v17), (0, .ref (ad LY b 0 0))] := hl
          refine lv_goto (tgt := 45) hx hb d_Y_soonest_110 (by decide) ?_
          exact ih v17 (x3 + (1 : Int32)) z ls H locs  hW hS (lv_sub hl [2, 1, 0] rfl) h
set_option maxHeartbeats 4000000 in
set_option maxRecDepth 100000 in
theorem c_Y_soonest (l : Launch) (G : GG) (b : Nat) (z : Mem) (r0 : Int64) (z0 : Mem) (h : dn_Y_soonest z = some (r0, z0)) : MtW l y_Y_soonest b_Y_soonest 4 (some .long) rm_Y_soonest LY G b [.ref (ad LY b 0 0)] z (QJ LY G b r0 z0) := by
  refine mtW_of (by decide) (Nat.le_of_ble_eq_true rfl) ?_
  intro p e s m args below meth c ls H locs C hW hS hl
  obtain ⟨hx, hb, hml, hr, hown, hts, hlk, hK⟩ := C
  have hl : lv_has ls 4 [(0, .ref (ad LY b 0 0))] := hl
  unfold dn_Y_soonest at h
  refine lv_lconst (v := (0 : Int64)) hx hb d_Y_soonest_0 (by decide) ?_
  refine lv_lstore_n hx hb d_Y_soonest_1 rfl hl (by decide) rfl (fun ls hl => ?_)
  have hl : lv_has ls 4 [(1, .long (0 : Int64)), (0, .ref (ad LY b 0 0))] := hl
  refine lv_iconst (v := (0 : Int32)) hx hb d_Y_soonest_2 (by decide) ?_
  refine lv_istore_n hx hb d_Y_soonest_3 rfl hl (by decide) rfl (fun ls hl => ?_)
  have hl : lv_has ls 4 [(3, .int (0 : Int32)), (1, .long (0 : Int64)), (0, .ref (ad LY b 0 0))] := hl
  refine w_Y_soonest_4 ⟨hx, hb, hml, hr, hown, hts, hlk, hK⟩ (fun x1 z5 ls H locs  hW hS hl h => ?_) FU (0 : Int64) (0 : Int32) z ls H locs  hW hS (lv_sub hl [2, 1, 0] rfl) h
  · refine lv_iconst (v := (0 : Int32)) hx hb d_Y_soonest_43 (by decide) ?_
    refine lv_istore_n hx hb d_Y_soonest_44 rfl hl (by decide) rfl (fun ls hl => ?_)
    have hl : lv_has ls 4 [(3, .int (0 : Int32)), (0, .ref (ad LY b 0 0)), (1, .long x1)] := hl
    refine w_Y_soonest_45 ⟨hx, hb, hml, hr, hown, hts, hlk, hK⟩ (fun x1 z18 ls H locs  hW hS hl h => ?_) FU x1 (0 : Int32) z5 ls H locs  hW hS (lv_sub hl [1, 2, 0] rfl) h
    · refine lv_lload_n hx hb d_Y_soonest_113 rfl (lv_at hl 0 rfl) ?_
      exact q_jret hx hb hr hlk hK hW hS h d_Y_soonest_114
set_option maxHeartbeats 4000000 in
set_option maxRecDepth 100000 in
theorem c_Y_moved (l : Launch) (G : GG) (b : Nat) (x1 : Int32) (z : Mem) (z0 : Mem) (h : dn_Y_moved x1 z = some z0) : MtW l y_Y_moved b_Y_moved 4 none rm_Y_moved LY G b [.ref (ad LY b 0 0), .int x1] z (QV LY G b z0) := by
  refine mtW_of (by decide) (Nat.le_of_ble_eq_true rfl) ?_
  intro p e s m args below meth c ls H locs C hW hS hl
  obtain ⟨hx, hb, hml, hr, hown, hts, hlk, hK⟩ := C
  have hl : lv_has ls 4 [(0, .ref (ad LY b 0 0)), (1, .int x1)] := hl
  unfold dn_Y_moved at h
  refine lv_aload_n hx hb d_Y_moved_0 rfl (lv_at hl 0 rfl) ?_
  refine q_get (L := LY) (kc := 0) (ki := 0) (C := "DeficitNetModel") (T := T_Y) (N := 40) (ci := 5) (v := .ref (ad LY b 27 0)) hx hb hts in_Y hown hK hW okY0 rfl rfl 28 (by decide) t_508 rfl d_Y_moved_1 ?_
  refine lv_iload_n hx hb d_Y_moved_4 rfl (lv_at hl 1 rfl) ?_
  obtain ⟨j1, ej1, h⟩ := bnd h
  refine q_zald (L := LY) (kc := 27) (ki := 0) hx hb hK hW okY27 rfl ej1 d_Y_moved_5 ?_
  refine lv_if_eq (tgt := 22) hx hb d_Y_moved_6 (by decide) (fun hc => ?_) (fun hc => ?_)
  · have h := ite_t h hc
    refine lv_aload_n hx hb d_Y_moved_22 rfl (lv_at hl 0 rfl) ?_
    refine q_get (L := LY) (kc := 0) (ki := 0) (C := "DeficitNetModel") (T := T_Y) (N := 40) (ci := 5) (v := .ref (ad LY b 26 0)) hx hb hts in_Y hown hK hW okY0 rfl rfl 27 (by decide) t_507 rfl d_Y_moved_23 ?_
    refine lv_iload_n hx hb d_Y_moved_26 rfl (lv_at hl 1 rfl) ?_
    obtain ⟨j2, ej2, h⟩ := bnd h
    refine q_iald (L := LY) (kc := 26) (ki := 0) hx hb hK hW okY26 rfl ej2 d_Y_moved_27 ?_
    refine lv_istore_n hx hb d_Y_moved_28 rfl hl (by decide) rfl (fun ls hl => ?_)
    have hl : lv_has ls 4 [(2, .int (z.1 26 0 j2)), (0, .ref (ad LY b 0 0)), (1, .int x1)] := hl
    refine lv_aload_n hx hb d_Y_moved_29 rfl (lv_at hl 1 rfl) ?_
    refine q_get (L := LY) (kc := 0) (ki := 0) (C := "DeficitNetModel") (T := T_Y) (N := 40) (ci := 5) (v := .ref (ad LY b 28 0)) hx hb hts in_Y hown hK hW okY0 rfl rfl 29 (by decide) t_509 rfl d_Y_moved_30 ?_
    refine lv_iload_n hx hb d_Y_moved_33 rfl (lv_at hl 2 rfl) ?_
    obtain ⟨j3, ej3, h⟩ := bnd h
    refine q_iald (L := LY) (kc := 28) (ki := 0) hx hb hK hW okY28 rfl ej3 d_Y_moved_34 ?_
    refine lv_istore_n hx hb d_Y_moved_35 rfl hl (by decide) rfl (fun ls hl => ?_)
    have hl : lv_has ls 4 [(3, .int (z.1 28 0 j3)), (2, .int (z.1 26 0 j2)), (0, .ref (ad LY b 0 0)), (1, .int x1)] := hl
    refine lv_aload_n hx hb d_Y_moved_36 rfl (lv_at hl 2 rfl) ?_
    refine q_get (L := LY) (kc := 0) (ki := 0) (C := "DeficitNetModel") (T := T_Y) (N := 40) (ci := 5) (v := .ref (ad LY b 24 0)) hx hb hts in_Y hown hK hW okY0 rfl rfl 25 (by decide) t_505 rfl d_Y_moved_37 ?_
    refine lv_iload_n hx hb d_Y_moved_40 rfl (lv_at hl 3 rfl) ?_
    obtain ⟨j4, ej4, h⟩ := bnd h
    refine q_iald (L := LY) (kc := 24) (ki := 0) hx hb hK hW okY24 rfl ej4 d_Y_moved_41 ?_
    refine lv_iconst (v := (3 : Int32)) hx hb d_Y_moved_42 (by decide) ?_
    refine lv_icmp_ne (tgt := 63) hx hb d_Y_moved_43 (by decide) (fun hc => ?_) (fun hc => ?_)
    · have h := ite_f h hc
      refine lv_aload_n hx hb d_Y_moved_63 rfl (lv_at hl 2 rfl) ?_
      refine lv_iconst (v := (2 : Int32)) hx hb d_Y_moved_64 (by decide) ?_
      refine lv_iload_n hx hb d_Y_moved_65 rfl (lv_at hl 0 rfl) ?_
      refine lv_iload_n hx hb d_Y_moved_66 rfl (lv_at hl 1 rfl) ?_
      obtain ⟨z5, ez5, h⟩ := bnd h
      refine q_callVv (C := "DeficitNetModel") (As := [.int (2 : Int32), .int (z.1 28 0 j3), .int (z.1 26 0 j2)]) (rest := []) hx hb hml hown hts hK hW hS (c_Y_note l G b (2 : Int32) (z.1 28 0 j3) (z.1 26 0 j2) z z5 ez5) f_Y_note t_666 ⟨rfl, rfl⟩ ⟨Nat.le_of_ble_eq_true rfl, Nat.le_of_ble_eq_true rfl⟩ (q_recv (L := LY) (kc := 0) (ki := 0) hK hW okY0 rfl rfl) rfl hl.1 rfl (Nat.le_of_ble_eq_true rfl) d_Y_moved_67 (fun H locs hW hS => ?_)
      refine lv_aload_n hx hb d_Y_moved_70 rfl (lv_at hl 2 rfl) ?_
      refine q_get (L := LY) (kc := 0) (ki := 0) (C := "DeficitNetModel") (T := T_Y) (N := 40) (ci := 5) (v := .ref (ad LY b 24 0)) hx hb hts in_Y hown hK hW okY0 rfl rfl 25 (by decide) t_505 rfl d_Y_moved_71 ?_
      refine lv_iload_n hx hb d_Y_moved_74 rfl (lv_at hl 3 rfl) ?_
      refine lv_iconst (v := (3 : Int32)) hx hb d_Y_moved_75 (by decide) ?_
      obtain ⟨j6, ej6, h⟩ := bnd h
      refine q_iast (L := LY) (kc := 24) (ki := 0) hx hb hK hW hS okY24 (fun _ => rfl) ej6 d_Y_moved_76 (fun H locs z7 ez7 hW hS => ?_)
      have h := stM_n h ez7
      refine lv_aload_n hx hb d_Y_moved_77 rfl (lv_at hl 2 rfl) ?_
      refine q_get (L := LY) (kc := 0) (ki := 0) (C := "DeficitNetModel") (T := T_Y) (N := 40) (ci := 5) (v := .ref (ad LY b 29 0)) hx hb hts in_Y hown hK hW okY0 rfl rfl 30 (by decide) t_510 rfl d_Y_moved_78 ?_
      refine lv_iload_n hx hb d_Y_moved_81 rfl (lv_at hl 3 rfl) ?_
      refine lv_aload_n hx hb d_Y_moved_82 rfl (lv_at hl 2 rfl) ?_
      refine q_get (L := LY) (kc := 0) (ki := 0) (C := "DeficitNetModel") (T := T_Y) (N := 40) (ci := 5) (v := .int (z7.1 0 0 36)) hx hb hts in_Y hown hK hW okY0 rfl rfl 36 (by decide) t_516 rfl d_Y_moved_83 ?_
      refine lv_aload_n hx hb d_Y_moved_86 rfl (lv_at hl 2 rfl) ?_
      refine q_get (L := LY) (kc := 0) (ki := 0) (C := "DeficitNetModel") (T := T_Y) (N := 40) (ci := 5) (v := .ref (ad LY b 5 0)) hx hb hts in_Y hown hK hW okY0 rfl rfl 5 (by decide) t_485 rfl d_Y_moved_87 ?_
      refine lv_iload_n hx hb d_Y_moved_90 rfl (lv_at hl 0 rfl) ?_
      refine lv_iconst (v := (2 : Int32)) hx hb d_Y_moved_91 (by decide) ?_
      refine lv_idiv hx hb d_Y_moved_92 (by decide) ?_
      obtain ⟨j8, ej8, h⟩ := bnd h
      refine q_iald (L := LY) (kc := 5) (ki := 0) hx hb hK hW okY5 rfl ej8 d_Y_moved_93 ?_
      refine lv_iadd hx hb d_Y_moved_94 ?_
      obtain ⟨j9, ej9, h⟩ := bnd h
      refine q_iast (L := LY) (kc := 29) (ki := 0) hx hb hK hW hS okY29 (fun _ => rfl) ej9 d_Y_moved_95 (fun H locs z10 ez10 hW hS => ?_)
      have h := stM_n h ez10
      refine lv_aload_n hx hb d_Y_moved_96 rfl (lv_at hl 2 rfl) ?_
      refine q_get (L := LY) (kc := 0) (ki := 0) (C := "DeficitNetModel") (T := T_Y) (N := 40) (ci := 5) (v := .ref (ad LY b 30 0)) hx hb hts in_Y hown hK hW okY0 rfl rfl 31 (by decide) t_511 rfl d_Y_moved_97 ?_
      refine lv_iload_n hx hb d_Y_moved_100 rfl (lv_at hl 3 rfl) ?_
      refine lv_aload_n hx hb d_Y_moved_101 rfl (lv_at hl 2 rfl) ?_
      refine lv_dup hx hb d_Y_moved_102 rfl ?_
      refine q_get (L := LY) (kc := 0) (ki := 0) (C := "DeficitNetModel") (T := T_Y) (N := 40) (ci := 5) (v := .int (z10.1 0 0 37)) hx hb hts in_Y hown hK hW okY0 rfl rfl 37 (by decide) t_517 rfl d_Y_moved_103 ?_
      refine lv_iconst (v := (1 : Int32)) hx hb d_Y_moved_106 (by decide) ?_
      refine lv_iadd hx hb d_Y_moved_107 ?_
      refine lv_dup_x1 hx hb d_Y_moved_108 rfl rfl ?_
      refine q_put (L := LY) (kc := 0) (ki := 0) (C := "DeficitNetModel") (T := T_Y) (N := 40) (ci := 5) hx hb hts in_Y ty_Y tyok_Y nm_Y hown hK hW hS okY0 rfl rfl 37 (by decide) t_517 rfl rfl rfl (Nat.le_of_ble_eq_true rfl) rfl d_Y_moved_109 (fun H locs z11 ez11 hW hS => ?_)
      have h := stM_n h ez11
      obtain ⟨j12, ej12, h⟩ := bnd h
      refine q_iast (L := LY) (kc := 30) (ki := 0) hx hb hK hW hS okY30 (fun _ => rfl) ej12 d_Y_moved_112 (fun H locs z13 ez13 hW hS => ?_)
      have h := stM_n h ez13
      refine lv_aload_n hx hb d_Y_moved_113 rfl (lv_at hl 2 rfl) ?_
      refine lv_iload_n hx hb d_Y_moved_114 rfl (lv_at hl 0 rfl) ?_
      refine lv_iconst (v := (-1 : Int32)) hx hb d_Y_moved_115 (by decide) ?_
      obtain ⟨⟨v14, z14⟩, er14, h⟩ := bnd h
      refine q_callVi (C := "DeficitNetModel") (As := [.int (z.1 28 0 j3), .int (-1 : Int32)]) (rest := []) hx hb hml hown hts hK hW hS (c_Y_queued l G b (z.1 28 0 j3) (-1 : Int32) z13 v14 z14 er14) f_Y_queued t_694 ⟨rfl, rfl⟩ ⟨Nat.le_of_ble_eq_true rfl, Nat.le_of_ble_eq_true rfl⟩ (q_recv (L := LY) (kc := 0) (ki := 0) hK hW okY0 rfl rfl) rfl hl.1 rfl (Nat.le_of_ble_eq_true rfl) d_Y_moved_116 (fun H locs hW hS => ?_)
      refine lv_if_le (tgt := 127) hx hb d_Y_moved_119 (by decide) (fun hc => ?_) (fun hc => ?_)
      · have h := ite_t h hc
        exact q_vret hx hb hr hlk hK hW hS h d_Y_moved_127
      · have h := ite_f h hc
        refine lv_aload_n hx hb d_Y_moved_122 rfl (lv_at hl 2 rfl) ?_
        refine lv_iload_n hx hb d_Y_moved_123 rfl (lv_at hl 0 rfl) ?_
        obtain ⟨z15, ez15, h⟩ := bnd h
        refine q_callVv (C := "DeficitNetModel") (As := [.int (z.1 28 0 j3)]) (rest := []) hx hb hml hown hts hK hW hS (c_Y_choose l G b (z.1 28 0 j3) z14 z15 ez15) f_Y_choose t_706 ⟨rfl, rfl⟩ ⟨Nat.le_of_ble_eq_true rfl, Nat.le_of_ble_eq_true rfl⟩ (q_recv (L := LY) (kc := 0) (ki := 0) hK hW okY0 rfl rfl) rfl hl.1 rfl (Nat.le_of_ble_eq_true rfl) d_Y_moved_124 (fun H locs hW hS => ?_)
        exact q_vret hx hb hr hlk hK hW hS h d_Y_moved_127
    · have h := ite_t h hc
      refine lv_aload_n hx hb d_Y_moved_46 rfl (lv_at hl 2 rfl) ?_
      refine lv_iconst (v := (3 : Int32)) hx hb d_Y_moved_47 (by decide) ?_
      refine lv_aload_n hx hb d_Y_moved_48 rfl (lv_at hl 2 rfl) ?_
      refine lv_iload_n hx hb d_Y_moved_49 rfl (lv_at hl 0 rfl) ?_
      obtain ⟨⟨v16, z16⟩, er16, h⟩ := bnd h
      refine q_callVi (C := "DeficitNetModel") (As := [.int (z.1 28 0 j3)]) (rest := [.int (3 : Int32), .ref (ad LY b 0 0)]) hx hb hml hown hts hK hW hS (c_Y_leads l G b (z.1 28 0 j3) z v16 z16 er16) f_Y_leads t_646 ⟨rfl, rfl⟩ ⟨Nat.le_of_ble_eq_true rfl, Nat.le_of_ble_eq_true rfl⟩ (q_recv (L := LY) (kc := 0) (ki := 0) hK hW okY0 rfl rfl) rfl hl.1 rfl (Nat.le_of_ble_eq_true rfl) d_Y_moved_50 (fun H locs hW hS => ?_)
      refine lv_iload_n hx hb d_Y_moved_53 rfl (lv_at hl 1 rfl) ?_
      obtain ⟨z17, ez17, h⟩ := bnd h
      refine q_callVv (C := "DeficitNetModel") (As := [.int (3 : Int32), .int v16, .int (z.1 26 0 j2)]) (rest := []) hx hb hml hown hts hK hW hS (c_Y_note l G b (3 : Int32) v16 (z.1 26 0 j2) z16 z17 ez17) f_Y_note t_666 ⟨rfl, rfl⟩ ⟨Nat.le_of_ble_eq_true rfl, Nat.le_of_ble_eq_true rfl⟩ (q_recv (L := LY) (kc := 0) (ki := 0) hK hW okY0 rfl rfl) rfl hl.1 rfl (Nat.le_of_ble_eq_true rfl) d_Y_moved_54 (fun H locs hW hS => ?_)
      refine lv_aload_n hx hb d_Y_moved_57 rfl (lv_at hl 2 rfl) ?_
      refine lv_iload_n hx hb d_Y_moved_58 rfl (lv_at hl 3 rfl) ?_
      obtain ⟨z18, ez18, h⟩ := bnd h
      refine q_callVv (C := "DeficitNetModel") (As := [.int x1]) (rest := []) hx hb hml hown hts hK hW hS (c_Y_arrive l G b x1 z17 z18 ez18) f_Y_arrive t_726 ⟨rfl, rfl⟩ ⟨Nat.le_of_ble_eq_true rfl, Nat.le_of_ble_eq_true rfl⟩ (q_recv (L := LY) (kc := 0) (ki := 0) hK hW okY0 rfl rfl) rfl hl.1 rfl (Nat.le_of_ble_eq_true rfl) d_Y_moved_59 (fun H locs hW hS => ?_)
      exact q_vret hx hb hr hlk hK hW hS h d_Y_moved_62
  · have h := ite_f h hc
    refine lv_aload_n hx hb d_Y_moved_9 rfl (lv_at hl 0 rfl) ?_
    refine q_get (L := LY) (kc := 0) (ki := 0) (C := "DeficitNetModel") (T := T_Y) (N := 40) (ci := 5) (v := .ref (ad LY b 26 0)) hx hb hts in_Y hown hK hW okY0 rfl rfl 27 (by decide) t_507 rfl d_Y_moved_10 ?_
    refine lv_iload_n hx hb d_Y_moved_13 rfl (lv_at hl 1 rfl) ?_
    obtain ⟨j19, ej19, h⟩ := bnd h
    refine q_iald (L := LY) (kc := 26) (ki := 0) hx hb hK hW okY26 rfl ej19 d_Y_moved_14 ?_
    refine lv_sipush (v := (128 : Int32)) hx hb d_Y_moved_15 (by decide) ?_
    refine lv_iadd hx hb d_Y_moved_18 ?_
    refine lv_goto (tgt := 28) hx hb d_Y_moved_19 (by decide) ?_
    refine lv_topi (fun v20 ev20 => ?_)
    have h := stV_n h ev20
    refine lv_istore_n hx hb d_Y_moved_28 rfl hl (by decide) rfl (fun ls hl => ?_)
    have hl : lv_has ls 4 [(2, .int v20), (0, .ref (ad LY b 0 0)), (1, .int x1)] := hl
    refine lv_aload_n hx hb d_Y_moved_29 rfl (lv_at hl 1 rfl) ?_
    refine q_get (L := LY) (kc := 0) (ki := 0) (C := "DeficitNetModel") (T := T_Y) (N := 40) (ci := 5) (v := .ref (ad LY b 28 0)) hx hb hts in_Y hown hK hW okY0 rfl rfl 29 (by decide) t_509 rfl d_Y_moved_30 ?_
    refine lv_iload_n hx hb d_Y_moved_33 rfl (lv_at hl 2 rfl) ?_
    obtain ⟨j21, ej21, h⟩ := bnd h
    refine q_iald (L := LY) (kc := 28) (ki := 0) hx hb hK hW okY28 rfl ej21 d_Y_moved_34 ?_
    refine lv_istore_n hx hb d_Y_moved_35 rfl hl (by decide) rfl (fun ls hl => ?_)
    have hl : lv_has ls 4 [(3, .int (z.1 28 0 j21)), (2, .int v20), (0, .ref (ad LY b 0 0)), (1, .int x1)] := hl
    refine lv_aload_n hx hb d_Y_moved_36 rfl (lv_at hl 2 rfl) ?_
    refine q_get (L := LY) (kc := 0) (ki := 0) (C := "DeficitNetModel") (T := T_Y) (N := 40) (ci := 5) (v := .ref (ad LY b 24 0)) hx hb hts in_Y hown hK hW okY0 rfl rfl 25 (by decide) t_505 rfl d_Y_moved_37 ?_
    refine lv_iload_n hx hb d_Y_moved_40 rfl (lv_at hl 3 rfl) ?_
    obtain ⟨j22, ej22, h⟩ := bnd h
    refine q_iald (L := LY) (kc := 24) (ki := 0) hx hb hK hW okY24 rfl ej22 d_Y_moved_41 ?_
    refine lv_iconst (v := (3 : Int32)) hx hb d_Y_moved_42 (by decide) ?_
    refine lv_icmp_ne (tgt := 63) hx hb d_Y_moved_43 (by decide) (fun hc => ?_) (fun hc => ?_)
    · have h := ite_f h hc
      refine lv_aload_n hx hb d_Y_moved_63 rfl (lv_at hl 2 rfl) ?_
      refine lv_iconst (v := (2 : Int32)) hx hb d_Y_moved_64 (by decide) ?_
      refine lv_iload_n hx hb d_Y_moved_65 rfl (lv_at hl 0 rfl) ?_
      refine lv_iload_n hx hb d_Y_moved_66 rfl (lv_at hl 1 rfl) ?_
      obtain ⟨z23, ez23, h⟩ := bnd h
      refine q_callVv (C := "DeficitNetModel") (As := [.int (2 : Int32), .int (z.1 28 0 j21), .int v20]) (rest := []) hx hb hml hown hts hK hW hS (c_Y_note l G b (2 : Int32) (z.1 28 0 j21) v20 z z23 ez23) f_Y_note t_666 ⟨rfl, rfl⟩ ⟨Nat.le_of_ble_eq_true rfl, Nat.le_of_ble_eq_true rfl⟩ (q_recv (L := LY) (kc := 0) (ki := 0) hK hW okY0 rfl rfl) rfl hl.1 rfl (Nat.le_of_ble_eq_true rfl) d_Y_moved_67 (fun H locs hW hS => ?_)
      refine lv_aload_n hx hb d_Y_moved_70 rfl (lv_at hl 2 rfl) ?_
      refine q_get (L := LY) (kc := 0) (ki := 0) (C := "DeficitNetModel") (T := T_Y) (N := 40) (ci := 5) (v := .ref (ad LY b 24 0)) hx hb hts in_Y hown hK hW okY0 rfl rfl 25 (by decide) t_505 rfl d_Y_moved_71 ?_
      refine lv_iload_n hx hb d_Y_moved_74 rfl (lv_at hl 3 rfl) ?_
      refine lv_iconst (v := (3 : Int32)) hx hb d_Y_moved_75 (by decide) ?_
      obtain ⟨j24, ej24, h⟩ := bnd h
      refine q_iast (L := LY) (kc := 24) (ki := 0) hx hb hK hW hS okY24 (fun _ => rfl) ej24 d_Y_moved_76 (fun H locs z25 ez25 hW hS => ?_)
      have h := stM_n h ez25
      refine lv_aload_n hx hb d_Y_moved_77 rfl (lv_at hl 2 rfl) ?_
      refine q_get (L := LY) (kc := 0) (ki := 0) (C := "DeficitNetModel") (T := T_Y) (N := 40) (ci := 5) (v := .ref (ad LY b 29 0)) hx hb hts in_Y hown hK hW okY0 rfl rfl 30 (by decide) t_510 rfl d_Y_moved_78 ?_
      refine lv_iload_n hx hb d_Y_moved_81 rfl (lv_at hl 3 rfl) ?_
      refine lv_aload_n hx hb d_Y_moved_82 rfl (lv_at hl 2 rfl) ?_
      refine q_get (L := LY) (kc := 0) (ki := 0) (C := "DeficitNetModel") (T := T_Y) (N := 40) (ci := 5) (v := .int (z25.1 0 0 36)) hx hb hts in_Y hown hK hW okY0 rfl rfl 36 (by decide) t_516 rfl d_Y_moved_83 ?_
      refine lv_aload_n hx hb d_Y_moved_86 rfl (lv_at hl 2 rfl) ?_
      refine q_get (L := LY) (kc := 0) (ki := 0) (C := "DeficitNetModel") (T := T_Y) (N := 40) (ci := 5) (v := .ref (ad LY b 5 0)) hx hb hts in_Y hown hK hW okY0 rfl rfl 5 (by decide) t_485 rfl d_Y_moved_87 ?_
      refine lv_iload_n hx hb d_Y_moved_90 rfl (lv_at hl 0 rfl) ?_
      refine lv_iconst (v := (2 : Int32)) hx hb d_Y_moved_91 (by decide) ?_
      refine lv_idiv hx hb d_Y_moved_92 (by decide) ?_
      obtain ⟨j26, ej26, h⟩ := bnd h
      refine q_iald (L := LY) (kc := 5) (ki := 0) hx hb hK hW okY5 rfl ej26 d_Y_moved_93 ?_
      refine lv_iadd hx hb d_Y_moved_94 ?_
      obtain ⟨j27, ej27, h⟩ := bnd h
      refine q_iast (L := LY) (kc := 29) (ki := 0) hx hb hK hW hS okY29 (fun _ => rfl) ej27 d_Y_moved_95 (fun H locs z28 ez28 hW hS => ?_)
      have h := stM_n h ez28
      refine lv_aload_n hx hb d_Y_moved_96 rfl (lv_at hl 2 rfl) ?_
      refine q_get (L := LY) (kc := 0) (ki := 0) (C := "DeficitNetModel") (T := T_Y) (N := 40) (ci := 5) (v := .ref (ad LY b 30 0)) hx hb hts in_Y hown hK hW okY0 rfl rfl 31 (by decide) t_511 rfl d_Y_moved_97 ?_
      refine lv_iload_n hx hb d_Y_moved_100 rfl (lv_at hl 3 rfl) ?_
      refine lv_aload_n hx hb d_Y_moved_101 rfl (lv_at hl 2 rfl) ?_
      refine lv_dup hx hb d_Y_moved_102 rfl ?_
      refine q_get (L := LY) (kc := 0) (ki := 0) (C := "DeficitNetModel") (T := T_Y) (N := 40) (ci := 5) (v := .int (z28.1 0 0 37)) hx hb hts in_Y hown hK hW okY0 rfl rfl 37 (by decide) t_517 rfl d_Y_moved_103 ?_
      refine lv_iconst (v := (1 : Int32)) hx hb d_Y_moved_106 (by decide) ?_
      refine lv_iadd hx hb d_Y_moved_107 ?_
      refine lv_dup_x1 hx hb d_Y_moved_108 rfl rfl ?_
      refine q_put (L := LY) (kc := 0) (ki := 0) (C := "DeficitNetModel") (T := T_Y) (N := 40) (ci := 5) hx hb hts in_Y ty_Y tyok_Y nm_Y hown hK hW hS okY0 rfl rfl 37 (by decide) t_517 rfl rfl rfl (Nat.le_of_ble_eq_true rfl) rfl d_Y_moved_109 (fun H locs z29 ez29 hW hS => ?_)
      have h := stM_n h ez29
      obtain ⟨j30, ej30, h⟩ := bnd h
      refine q_iast (L := LY) (kc := 30) (ki := 0) hx hb hK hW hS okY30 (fun _ => rfl) ej30 d_Y_moved_112 (fun H locs z31 ez31 hW hS => ?_)
      have h := stM_n h ez31
      refine lv_aload_n hx hb d_Y_moved_113 rfl (lv_at hl 2 rfl) ?_
      refine lv_iload_n hx hb d_Y_moved_114 rfl (lv_at hl 0 rfl) ?_
      refine lv_iconst (v := (-1 : Int32)) hx hb d_Y_moved_115 (by decide) ?_
      obtain ⟨⟨v32, z32⟩, er32, h⟩ := bnd h
      refine q_callVi (C := "DeficitNetModel") (As := [.int (z.1 28 0 j21), .int (-1 : Int32)]) (rest := []) hx hb hml hown hts hK hW hS (c_Y_queued l G b (z.1 28 0 j21) (-1 : Int32) z31 v32 z32 er32) f_Y_queued t_694 ⟨rfl, rfl⟩ ⟨Nat.le_of_ble_eq_true rfl, Nat.le_of_ble_eq_true rfl⟩ (q_recv (L := LY) (kc := 0) (ki := 0) hK hW okY0 rfl rfl) rfl hl.1 rfl (Nat.le_of_ble_eq_true rfl) d_Y_moved_116 (fun H locs hW hS => ?_)
      refine lv_if_le (tgt := 127) hx hb d_Y_moved_119 (by decide) (fun hc => ?_) (fun hc => ?_)
      · have h := ite_t h hc
        exact q_vret hx hb hr hlk hK hW hS h d_Y_moved_127
      · have h := ite_f h hc
        refine lv_aload_n hx hb d_Y_moved_122 rfl (lv_at hl 2 rfl) ?_
        refine lv_iload_n hx hb d_Y_moved_123 rfl (lv_at hl 0 rfl) ?_
        obtain ⟨z33, ez33, h⟩ := bnd h
        refine q_callVv (C := "DeficitNetModel") (As := [.int (z.1 28 0 j21)]) (rest := []) hx hb hml hown hts hK hW hS (c_Y_choose l G b (z.1 28 0 j21) z32 z33 ez33) f_Y_choose t_706 ⟨rfl, rfl⟩ ⟨Nat.le_of_ble_eq_true rfl, Nat.le_of_ble_eq_true rfl⟩ (q_recv (L := LY) (kc := 0) (ki := 0) hK hW okY0 rfl rfl) rfl hl.1 rfl (Nat.le_of_ble_eq_true rfl) d_Y_moved_124 (fun H locs hW hS => ?_)
        exact q_vret hx hb hr hlk hK hW hS h d_Y_moved_127
    · have h := ite_t h hc
      refine lv_aload_n hx hb d_Y_moved_46 rfl (lv_at hl 2 rfl) ?_
      refine lv_iconst (v := (3 : Int32)) hx hb d_Y_moved_47 (by decide) ?_
      refine lv_aload_n hx hb d_Y_moved_48 rfl (lv_at hl 2 rfl) ?_
      refine lv_iload_n hx hb d_Y_moved_49 rfl (lv_at hl 0 rfl) ?_
      obtain ⟨⟨v34, z34⟩, er34, h⟩ := bnd h
      refine q_callVi (C := "DeficitNetModel") (As := [.int (z.1 28 0 j21)]) (rest := [.int (3 : Int32), .ref (ad LY b 0 0)]) hx hb hml hown hts hK hW hS (c_Y_leads l G b (z.1 28 0 j21) z v34 z34 er34) f_Y_leads t_646 ⟨rfl, rfl⟩ ⟨Nat.le_of_ble_eq_true rfl, Nat.le_of_ble_eq_true rfl⟩ (q_recv (L := LY) (kc := 0) (ki := 0) hK hW okY0 rfl rfl) rfl hl.1 rfl (Nat.le_of_ble_eq_true rfl) d_Y_moved_50 (fun H locs hW hS => ?_)
      refine lv_iload_n hx hb d_Y_moved_53 rfl (lv_at hl 1 rfl) ?_
      obtain ⟨z35, ez35, h⟩ := bnd h
      refine q_callVv (C := "DeficitNetModel") (As := [.int (3 : Int32), .int v34, .int v20]) (rest := []) hx hb hml hown hts hK hW hS (c_Y_note l G b (3 : Int32) v34 v20 z34 z35 ez35) f_Y_note t_666 ⟨rfl, rfl⟩ ⟨Nat.le_of_ble_eq_true rfl, Nat.le_of_ble_eq_true rfl⟩ (q_recv (L := LY) (kc := 0) (ki := 0) hK hW okY0 rfl rfl) rfl hl.1 rfl (Nat.le_of_ble_eq_true rfl) d_Y_moved_54 (fun H locs hW hS => ?_)
      refine lv_aload_n hx hb d_Y_moved_57 rfl (lv_at hl 2 rfl) ?_
      refine lv_iload_n hx hb d_Y_moved_58 rfl (lv_at hl 3 rfl) ?_
      obtain ⟨z36, ez36, h⟩ := bnd h
      refine q_callVv (C := "DeficitNetModel") (As := [.int x1]) (rest := []) hx hb hml hown hts hK hW hS (c_Y_arrive l G b x1 z35 z36 ez36) f_Y_arrive t_726 ⟨rfl, rfl⟩ ⟨Nat.le_of_ble_eq_true rfl, Nat.le_of_ble_eq_true rfl⟩ (q_recv (L := LY) (kc := 0) (ki := 0) hK hW okY0 rfl rfl) rfl hl.1 rfl (Nat.le_of_ble_eq_true rfl) d_Y_moved_59 (fun H locs hW hS => ?_)
      exact q_vret hx hb hr hlk hK hW hS h d_Y_moved_62
set_option maxHeartbeats 4000000 in
set_option maxRecDepth 100000 in
theorem w_Y_step_37 {p : Program} {l : Launch} {e : Env} {s : State} {m : MethodId} {args : Array Value} {below : List Frame} {meth : Method} {c : Code} {G : GG} {b : Nat} {r0 : Int32} {z0 : Mem} (C : Cx y_Y_step b_Y_step 5 (some .boolean) p s m args meth c G) {k68 : Int32 → Mem → Option (Int32 × Mem)} {k120 : Int32 → Mem → Option (Int32 × Mem)} {k185 : Int32 → Mem → Option (Int32 × Mem)} 
    (hk68 : ∀ (x4 : Int32) (z : Mem) (ls : Array Slot) (H : Heap) (locs : List Loc), Wd LY G b z H → va_S (rgL LY b) s.heap H locs → lv_has ls 5 [(0, .ref (ad LY b 0 0)), (4, .int x4)] → k68 x4 z = some (r0, z0) → W p l e rm_Y_step s m args below meth c H locs 0 0 (MQ below (QI LY G b r0 z0) args s 0 0 (rgL LY b)) (F0 m 68 ls []))
    (hk120 : ∀ (x4 : Int32) (z : Mem) (ls : Array Slot) (H : Heap) (locs : List Loc), Wd LY G b z H → va_S (rgL LY b) s.heap H locs → lv_has ls 5 [(0, .ref (ad LY b 0 0)), (4, .int x4)] → k120 x4 z = some (r0, z0) → W p l e rm_Y_step s m args below meth c H locs 0 0 (MQ below (QI LY G b r0 z0) args s 0 0 (rgL LY b)) (F0 m 120 ls []))
    (hk185 : ∀ (x3 : Int32) (z : Mem) (ls : Array Slot) (H : Heap) (locs : List Loc), Wd LY G b z H → va_S (rgL LY b) s.heap H locs → lv_has ls 5 [(0, .ref (ad LY b 0 0)), (3, .int x3)] → k185 x3 z = some (r0, z0) → W p l e rm_Y_step s m args below meth c H locs 0 0 (MQ below (QI LY G b r0 z0) args s 0 0 (rgL LY b)) (F0 m 185 ls [])) :
    ∀ (n : Nat) (x3 : Int32) (x4 : Int32) (z : Mem) (ls : Array Slot) (H : Heap) (locs : List Loc), Wd LY G b z H → va_S (rgL LY b) s.heap H locs → lv_has ls 5 [(0, .ref (ad LY b 0 0)), (3, .int x3), (4, .int x4)] → dn_Y_step_37 k68 k120 k185 n x3 x4 z = some (r0, z0) → W p l e rm_Y_step s m args below meth c H locs 0 0 (MQ below (QI LY G b r0 z0) args s 0 0 (rgL LY b)) (F0 m 37 ls []) := by
  obtain ⟨hx, hb, hml, hr, hown, hts, hlk, hK⟩ := C
  intro n
  induction n with
  | zero =>
    intro x3 x4 z ls H locs  hW hS hl h
    cases h
  | succ n ih =>
    intro x3 x4 z ls H locs  hW hS hl h
    rw [dn_Y_step_37] at h
    refine lv_iload hx hb d_Y_step_37 (lv_at hl 2 rfl) ?_
    refine lv_aload_n hx hb d_Y_step_39 rfl (lv_at hl 0 rfl) ?_
    refine q_get (L := LY) (kc := 0) (ki := 0) (C := "DeficitNetModel") (T := T_Y) (N := 40) (ci := 5) (v := .int (z.1 0 0 9)) hx hb hts in_Y hown hK hW okY0 rfl rfl 9 (by decide) t_489 rfl d_Y_step_40 ?_
    refine lv_icmp_ge (tgt := 185) hx hb d_Y_step_43 (by decide) (fun hc => ?_) (fun hc => ?_)
    · have h := ite_t h hc
      exact hk185 x3 z ls H locs  hW hS (lv_sub hl [0, 1] rfl) h
    · have h := ite_f h hc
      refine lv_aload_n hx hb d_Y_step_46 rfl (lv_at hl 0 rfl) ?_
      refine q_get (L := LY) (kc := 0) (ki := 0) (C := "DeficitNetModel") (T := T_Y) (N := 40) (ci := 5) (v := .ref (ad LY b 19 0)) hx hb hts in_Y hown hK hW okY0 rfl rfl 20 (by decide) t_500 rfl d_Y_step_47 ?_
      refine lv_iload hx hb d_Y_step_50 (lv_at hl 2 rfl) ?_
      obtain ⟨j5, ej5, h⟩ := bnd h
      refine q_iald (L := LY) (kc := 19) (ki := 0) hx hb hK hW okY19 rfl ej5 d_Y_step_52 ?_
      refine lv_iconst (v := (-1 : Int32)) hx hb d_Y_step_53 (by decide) ?_
      refine lv_icmp_eq (tgt := 98) hx hb d_Y_step_54 (by decide) (fun hc => ?_) (fun hc => ?_)
      · have h := ite_t h hc
        refine lv_aload_n hx hb d_Y_step_98 rfl (lv_at hl 0 rfl) ?_
        refine q_get (L := LY) (kc := 0) (ki := 0) (C := "DeficitNetModel") (T := T_Y) (N := 40) (ci := 5) (v := .ref (ad LY b 21 0)) hx hb hts in_Y hown hK hW okY0 rfl rfl 22 (by decide) t_502 rfl d_Y_step_99 ?_
        refine lv_iload hx hb d_Y_step_102 (lv_at hl 2 rfl) ?_
        obtain ⟨j6, ej6, h⟩ := bnd h
        refine q_iald (L := LY) (kc := 21) (ki := 0) hx hb hK hW okY21 rfl ej6 d_Y_step_104 ?_
        refine lv_iconst (v := (-1 : Int32)) hx hb d_Y_step_105 (by decide) ?_
        refine lv_icmp_eq (tgt := 179) hx hb d_Y_step_106 (by decide) (fun hc => ?_) (fun hc => ?_)
        · have h := ite_t h hc
          refine lv_iinc (k := 2) (v := (x4 + (1 : Int32))) hx hb d_Y_step_179 hl rfl rfl (by decide) rfl (fun ls hl => ?_)
          have hl : lv_has ls 5 [(4, .int (x4 + (1 : Int32))), (0, .ref (ad LY b 0 0)), (3, .int x3)] := hl
          refine lv_goto (tgt := 37) hx hb d_Y_step_182 (by decide) ?_
          exact ih x3 (x4 + (1 : Int32)) z ls H locs  hW hS (lv_sub hl [1, 2, 0] rfl) h
        · have h := ite_f h hc
          refine lv_aload_n hx hb d_Y_step_109 rfl (lv_at hl 0 rfl) ?_
          refine q_get (L := LY) (kc := 0) (ki := 0) (C := "DeficitNetModel") (T := T_Y) (N := 40) (ci := 5) (v := .ref (ad LY b 22 0)) hx hb hts in_Y hown hK hW okY0 rfl rfl 23 (by decide) t_503 rfl d_Y_step_110 ?_
          refine lv_iload hx hb d_Y_step_113 (lv_at hl 2 rfl) ?_
          obtain ⟨j7, ej7, h⟩ := bnd h
          refine q_iald (L := LY) (kc := 22) (ki := 0) hx hb hK hW okY22 rfl ej7 d_Y_step_115 ?_
          refine lv_iload_n hx hb d_Y_step_116 rfl (lv_at hl 1 rfl) ?_
          refine lv_icmp_ne (tgt := 179) hx hb d_Y_step_117 (by decide) (fun hc => ?_) (fun hc => ?_)
          · have h := ite_f h hc
            refine lv_iinc (k := 2) (v := (x4 + (1 : Int32))) hx hb d_Y_step_179 hl rfl rfl (by decide) rfl (fun ls hl => ?_)
            have hl : lv_has ls 5 [(4, .int (x4 + (1 : Int32))), (0, .ref (ad LY b 0 0)), (3, .int x3)] := hl
            refine lv_goto (tgt := 37) hx hb d_Y_step_182 (by decide) ?_
            exact ih x3 (x4 + (1 : Int32)) z ls H locs  hW hS (lv_sub hl [1, 2, 0] rfl) h
          · have h := ite_t h hc
            exact hk120 x4 z ls H locs  hW hS (lv_sub hl [0, 2] rfl) h
      · have h := ite_f h hc
        refine lv_aload_n hx hb d_Y_step_57 rfl (lv_at hl 0 rfl) ?_
        refine q_get (L := LY) (kc := 0) (ki := 0) (C := "DeficitNetModel") (T := T_Y) (N := 40) (ci := 5) (v := .ref (ad LY b 20 0)) hx hb hts in_Y hown hK hW okY0 rfl rfl 21 (by decide) t_501 rfl d_Y_step_58 ?_
        refine lv_iload hx hb d_Y_step_61 (lv_at hl 2 rfl) ?_
        obtain ⟨j8, ej8, h⟩ := bnd h
        refine q_iald (L := LY) (kc := 20) (ki := 0) hx hb hK hW okY20 rfl ej8 d_Y_step_63 ?_
        refine lv_iload_n hx hb d_Y_step_64 rfl (lv_at hl 1 rfl) ?_
        refine lv_icmp_ne (tgt := 98) hx hb d_Y_step_65 (by decide) (fun hc => ?_) (fun hc => ?_)
        · have h := ite_f h hc
          refine lv_aload_n hx hb d_Y_step_98 rfl (lv_at hl 0 rfl) ?_
          refine q_get (L := LY) (kc := 0) (ki := 0) (C := "DeficitNetModel") (T := T_Y) (N := 40) (ci := 5) (v := .ref (ad LY b 21 0)) hx hb hts in_Y hown hK hW okY0 rfl rfl 22 (by decide) t_502 rfl d_Y_step_99 ?_
          refine lv_iload hx hb d_Y_step_102 (lv_at hl 2 rfl) ?_
          obtain ⟨j9, ej9, h⟩ := bnd h
          refine q_iald (L := LY) (kc := 21) (ki := 0) hx hb hK hW okY21 rfl ej9 d_Y_step_104 ?_
          refine lv_iconst (v := (-1 : Int32)) hx hb d_Y_step_105 (by decide) ?_
          refine lv_icmp_eq (tgt := 179) hx hb d_Y_step_106 (by decide) (fun hc => ?_) (fun hc => ?_)
          · have h := ite_t h hc
            refine lv_iinc (k := 2) (v := (x4 + (1 : Int32))) hx hb d_Y_step_179 hl rfl rfl (by decide) rfl (fun ls hl => ?_)
            have hl : lv_has ls 5 [(4, .int (x4 + (1 : Int32))), (0, .ref (ad LY b 0 0)), (3, .int x3)] := hl
            refine lv_goto (tgt := 37) hx hb d_Y_step_182 (by decide) ?_
            exact ih x3 (x4 + (1 : Int32)) z ls H locs  hW hS (lv_sub hl [1, 2, 0] rfl) h
          · have h := ite_f h hc
            refine lv_aload_n hx hb d_Y_step_109 rfl (lv_at hl 0 rfl) ?_
            refine q_get (L := LY) (kc := 0) (ki := 0) (C := "DeficitNetModel") (T := T_Y) (N := 40) (ci := 5) (v := .ref (ad LY b 22 0)) hx hb hts in_Y hown hK hW okY0 rfl rfl 23 (by decide) t_503 rfl d_Y_step_110 ?_
            refine lv_iload hx hb d_Y_step_113 (lv_at hl 2 rfl) ?_
            obtain ⟨j10, ej10, h⟩ := bnd h
            refine q_iald (L := LY) (kc := 22) (ki := 0) hx hb hK hW okY22 rfl ej10 d_Y_step_115 ?_
            refine lv_iload_n hx hb d_Y_step_116 rfl (lv_at hl 1 rfl) ?_
            refine lv_icmp_ne (tgt := 179) hx hb d_Y_step_117 (by decide) (fun hc => ?_) (fun hc => ?_)
            · have h := ite_f h hc
              refine lv_iinc (k := 2) (v := (x4 + (1 : Int32))) hx hb d_Y_step_179 hl rfl rfl (by decide) rfl (fun ls hl => ?_)
              have hl : lv_has ls 5 [(4, .int (x4 + (1 : Int32))), (0, .ref (ad LY b 0 0)), (3, .int x3)] := hl
              refine lv_goto (tgt := 37) hx hb d_Y_step_182 (by decide) ?_
              exact ih x3 (x4 + (1 : Int32)) z ls H locs  hW hS (lv_sub hl [1, 2, 0] rfl) h
            · have h := ite_t h hc
              exact hk120 x4 z ls H locs  hW hS (lv_sub hl [0, 2] rfl) h
        · have h := ite_t h hc
          exact hk68 x4 z ls H locs  hW hS (lv_sub hl [0, 2] rfl) h
set_option maxHeartbeats 4000000 in
set_option maxRecDepth 100000 in
theorem w_Y_step_188 {p : Program} {l : Launch} {e : Env} {s : State} {m : MethodId} {args : Array Value} {below : List Frame} {meth : Method} {c : Code} {G : GG} {b : Nat} {r0 : Int32} {z0 : Mem} (C : Cx y_Y_step b_Y_step 5 (some .boolean) p s m args meth c G) {k217 : Int32 → Mem → Option (Int32 × Mem)} {k231 : Mem → Option (Int32 × Mem)} 
    (hk217 : ∀ (x4 : Int32) (z : Mem) (ls : Array Slot) (H : Heap) (locs : List Loc), Wd LY G b z H → va_S (rgL LY b) s.heap H locs → lv_has ls 5 [(0, .ref (ad LY b 0 0)), (4, .int x4)] → k217 x4 z = some (r0, z0) → W p l e rm_Y_step s m args below meth c H locs 0 0 (MQ below (QI LY G b r0 z0) args s 0 0 (rgL LY b)) (F0 m 217 ls []))
    (hk231 : ∀  (z : Mem) (ls : Array Slot) (H : Heap) (locs : List Loc), Wd LY G b z H → va_S (rgL LY b) s.heap H locs → lv_has ls 5 [] → k231  z = some (r0, z0) → W p l e rm_Y_step s m args below meth c H locs 0 0 (MQ below (QI LY G b r0 z0) args s 0 0 (rgL LY b)) (F0 m 231 ls [])) :
    ∀ (n : Nat) (x3 : Int32) (x4 : Int32) (z : Mem) (ls : Array Slot) (H : Heap) (locs : List Loc), Wd LY G b z H → va_S (rgL LY b) s.heap H locs → lv_has ls 5 [(0, .ref (ad LY b 0 0)), (3, .int x3), (4, .int x4)] → dn_Y_step_188 k217 k231 n x3 x4 z = some (r0, z0) → W p l e rm_Y_step s m args below meth c H locs 0 0 (MQ below (QI LY G b r0 z0) args s 0 0 (rgL LY b)) (F0 m 188 ls []) := by
  obtain ⟨hx, hb, hml, hr, hown, hts, hlk, hK⟩ := C
  intro n
  induction n with
  | zero =>
    intro x3 x4 z ls H locs  hW hS hl h
    cases h
  | succ n ih =>
    intro x3 x4 z ls H locs  hW hS hl h
    rw [dn_Y_step_188] at h
    refine lv_iload hx hb d_Y_step_188 (lv_at hl 2 rfl) ?_
    refine lv_bipush (v := (64 : Int32)) hx hb d_Y_step_190 (by decide) ?_
    refine lv_icmp_ge (tgt := 231) hx hb d_Y_step_192 (by decide) (fun hc => ?_) (fun hc => ?_)
    · have h := ite_t h hc
      exact hk231  z ls H locs  hW hS (lv_sub hl [] rfl) h
    · have h := ite_f h hc
      refine lv_aload_n hx hb d_Y_step_195 rfl (lv_at hl 0 rfl) ?_
      refine q_get (L := LY) (kc := 0) (ki := 0) (C := "DeficitNetModel") (T := T_Y) (N := 40) (ci := 5) (v := .ref (ad LY b 24 0)) hx hb hts in_Y hown hK hW okY0 rfl rfl 25 (by decide) t_505 rfl d_Y_step_196 ?_
      refine lv_iload hx hb d_Y_step_199 (lv_at hl 2 rfl) ?_
      obtain ⟨j32, ej32, h⟩ := bnd h
      refine q_iald (L := LY) (kc := 24) (ki := 0) hx hb hK hW okY24 rfl ej32 d_Y_step_201 ?_
      refine lv_iconst (v := (2 : Int32)) hx hb d_Y_step_202 (by decide) ?_
      refine lv_icmp_lt (tgt := 225) hx hb d_Y_step_203 (by decide) (fun hc => ?_) (fun hc => ?_)
      · have h := ite_t h hc
        refine lv_iinc (k := 2) (v := (x4 + (1 : Int32))) hx hb d_Y_step_225 hl rfl rfl (by decide) rfl (fun ls hl => ?_)
        have hl : lv_has ls 5 [(4, .int (x4 + (1 : Int32))), (0, .ref (ad LY b 0 0)), (3, .int x3)] := hl
        refine lv_goto (tgt := 188) hx hb d_Y_step_228 (by decide) ?_
        exact ih x3 (x4 + (1 : Int32)) z ls H locs  hW hS (lv_sub hl [1, 2, 0] rfl) h
      · have h := ite_f h hc
        refine lv_aload_n hx hb d_Y_step_206 rfl (lv_at hl 0 rfl) ?_
        refine q_get (L := LY) (kc := 0) (ki := 0) (C := "DeficitNetModel") (T := T_Y) (N := 40) (ci := 5) (v := .ref (ad LY b 30 0)) hx hb hts in_Y hown hK hW okY0 rfl rfl 31 (by decide) t_511 rfl d_Y_step_207 ?_
        refine lv_iload hx hb d_Y_step_210 (lv_at hl 2 rfl) ?_
        obtain ⟨j33, ej33, h⟩ := bnd h
        refine q_iald (L := LY) (kc := 30) (ki := 0) hx hb hK hW okY30 rfl ej33 d_Y_step_212 ?_
        refine lv_iload_n hx hb d_Y_step_213 rfl (lv_at hl 1 rfl) ?_
        refine lv_icmp_ne (tgt := 225) hx hb d_Y_step_214 (by decide) (fun hc => ?_) (fun hc => ?_)
        · have h := ite_f h hc
          refine lv_iinc (k := 2) (v := (x4 + (1 : Int32))) hx hb d_Y_step_225 hl rfl rfl (by decide) rfl (fun ls hl => ?_)
          have hl : lv_has ls 5 [(4, .int (x4 + (1 : Int32))), (0, .ref (ad LY b 0 0)), (3, .int x3)] := hl
          refine lv_goto (tgt := 188) hx hb d_Y_step_228 (by decide) ?_
          exact ih x3 (x4 + (1 : Int32)) z ls H locs  hW hS (lv_sub hl [1, 2, 0] rfl) h
        · have h := ite_t h hc
          exact hk217 x4 z ls H locs  hW hS (lv_sub hl [0, 2] rfl) h
set_option maxHeartbeats 4000000 in
set_option maxRecDepth 100000 in
theorem c_Y_step (l : Launch) (G : GG) (b : Nat) (z : Mem) (r0 : Int32) (z0 : Mem) (h : dn_Y_step z = some (r0, z0)) : MtW l y_Y_step b_Y_step 5 (some .boolean) rm_Y_step LY G b [.ref (ad LY b 0 0)] z (QI LY G b r0 z0) := by
  refine mtW_of (by decide) (Nat.le_of_ble_eq_true rfl) ?_
  intro p e s m args below meth c ls H locs C hW hS hl
  obtain ⟨hx, hb, hml, hr, hown, hts, hlk, hK⟩ := C
  have hl : lv_has ls 5 [(0, .ref (ad LY b 0 0))] := hl
  unfold dn_Y_step at h
  refine lv_aload_n hx hb d_Y_step_0 rfl (lv_at hl 0 rfl) ?_
  obtain ⟨z1, ez1, h⟩ := bnd h
  refine q_callVv (C := "DeficitNetModel") (As := []) (rest := []) hx hb hml hown hts hK hW hS (c_Y_begin l G b z z1 ez1) f_Y_begin t_654 ⟨rfl, rfl⟩ ⟨Nat.le_of_ble_eq_true rfl, Nat.le_of_ble_eq_true rfl⟩ (q_recv (L := LY) (kc := 0) (ki := 0) hK hW okY0 rfl rfl) rfl hl.1 rfl (Nat.le_of_ble_eq_true rfl) d_Y_step_1 (fun H locs hW hS => ?_)
  refine lv_aload_n hx hb d_Y_step_4 rfl (lv_at hl 0 rfl) ?_
  obtain ⟨⟨v2, z2⟩, er2, h⟩ := bnd h
  refine q_callVj (C := "DeficitNetModel") (As := []) (rest := []) hx hb hml hown hts hK hW hS (c_Y_soonest l G b z1 v2 z2 er2) f_Y_soonest t_658 ⟨rfl, rfl⟩ ⟨Nat.le_of_ble_eq_true rfl, Nat.le_of_ble_eq_true rfl⟩ (q_recv (L := LY) (kc := 0) (ki := 0) hK hW okY0 rfl rfl) rfl hl.1 rfl (Nat.le_of_ble_eq_true rfl) d_Y_step_5 (fun H locs hW hS => ?_)
  refine lv_lstore_n hx hb d_Y_step_8 rfl hl (by decide) rfl (fun ls hl => ?_)
  have hl : lv_has ls 5 [(1, .long v2), (0, .ref (ad LY b 0 0))] := hl
  refine lv_lload_n hx hb d_Y_step_9 rfl (lv_at hl 0 rfl) ?_
  refine lv_lconst (v := (0 : Int64)) hx hb d_Y_step_10 (by decide) ?_
  refine W.lcmp hx hb d_Y_step_11 ?_
  refine lv_if_ne (tgt := 17) hx hb d_Y_step_12 (by decide) (fun hc => ?_) (fun hc => ?_)
  · have h := ite_f h hc
    refine lv_lload_n hx hb d_Y_step_17 rfl (lv_at hl 0 rfl) ?_
    refine lv_ldc2 (v := (4294967296 : Int64)) hx hb hown (hts _ t_665) d_Y_step_18 ?_
    refine lv_lrem hx hb d_Y_step_21 (by decide) ?_
    refine lv_l2i hx hb d_Y_step_22 rfl ?_
    refine lv_topi (fun v3 ev3 => ?_)
    have h := stV_n h ev3
    refine lv_istore_n hx hb d_Y_step_23 rfl hl (by decide) rfl (fun ls hl => ?_)
    have hl : lv_has ls 5 [(3, .int v3), (1, .long v2), (0, .ref (ad LY b 0 0))] := hl
    refine lv_aload_n hx hb d_Y_step_24 rfl (lv_at hl 2 rfl) ?_
    refine lv_lload_n hx hb d_Y_step_25 rfl (lv_at hl 1 rfl) ?_
    refine lv_ldc2 (v := (4294967296 : Int64)) hx hb hown (hts _ t_665) d_Y_step_26 ?_
    refine lv_ldiv hx hb d_Y_step_29 (by decide) ?_
    refine lv_l2i hx hb d_Y_step_30 rfl ?_
    refine q_put (L := LY) (kc := 0) (ki := 0) (C := "DeficitNetModel") (T := T_Y) (N := 40) (ci := 5) hx hb hts in_Y ty_Y tyok_Y nm_Y hown hK hW hS okY0 rfl rfl 36 (by decide) t_516 rfl rfl rfl (Nat.le_of_ble_eq_true rfl) rfl d_Y_step_31 (fun H locs z4 ez4 hW hS => ?_)
    have h := stM_n h ez4
    refine lv_iconst (v := (0 : Int32)) hx hb d_Y_step_34 (by decide) ?_
    refine lv_istore hx hb d_Y_step_35 hl (by decide) rfl (fun ls hl => ?_)
    have hl : lv_has ls 5 [(4, .int (0 : Int32)), (3, .int v3), (1, .long v2), (0, .ref (ad LY b 0 0))] := hl
    refine w_Y_step_37 ⟨hx, hb, hml, hr, hown, hts, hlk, hK⟩ (fun x4 z11 ls H locs  hW hS hl h => ?_) (fun x4 z18 ls H locs  hW hS hl h => ?_) (fun x3 z31 ls H locs  hW hS hl h => ?_) FU v3 (0 : Int32) z4 ls H locs  hW hS (lv_sub hl [3, 1, 0] rfl) h
    · refine lv_aload_n hx hb d_Y_step_68 rfl (lv_at hl 0 rfl) ?_
      refine q_get (L := LY) (kc := 0) (ki := 0) (C := "DeficitNetModel") (T := T_Y) (N := 40) (ci := 5) (v := .ref (ad LY b 19 0)) hx hb hts in_Y hown hK hW okY0 rfl rfl 20 (by decide) t_500 rfl d_Y_step_69 ?_
      refine lv_iload hx hb d_Y_step_72 (lv_at hl 1 rfl) ?_
      refine lv_iconst (v := (-1 : Int32)) hx hb d_Y_step_74 (by decide) ?_
      obtain ⟨j12, ej12, h⟩ := bnd h
      refine q_iast (L := LY) (kc := 19) (ki := 0) hx hb hK hW hS okY19 (fun _ => rfl) ej12 d_Y_step_75 (fun H locs z13 ez13 hW hS => ?_)
      have h := stM_n h ez13
      refine lv_aload_n hx hb d_Y_step_76 rfl (lv_at hl 0 rfl) ?_
      refine lv_iconst (v := (1 : Int32)) hx hb d_Y_step_77 (by decide) ?_
      refine lv_iload hx hb d_Y_step_78 (lv_at hl 1 rfl) ?_
      refine lv_aload_n hx hb d_Y_step_80 rfl (lv_at hl 0 rfl) ?_
      refine q_get (L := LY) (kc := 0) (ki := 0) (C := "DeficitNetModel") (T := T_Y) (N := 40) (ci := 5) (v := .ref (ad LY b 17 0)) hx hb hts in_Y hown hK hW okY0 rfl rfl 18 (by decide) t_498 rfl d_Y_step_81 ?_
      refine lv_iload hx hb d_Y_step_84 (lv_at hl 1 rfl) ?_
      obtain ⟨j14, ej14, h⟩ := bnd h
      refine q_iald (L := LY) (kc := 17) (ki := 0) hx hb hK hW okY17 rfl ej14 d_Y_step_86 ?_
      obtain ⟨z15, ez15, h⟩ := bnd h
      refine q_callVv (C := "DeficitNetModel") (As := [.int (1 : Int32), .int x4, .int (z13.1 17 0 j14)]) (rest := []) hx hb hml hown hts hK hW hS (c_Y_note l G b (1 : Int32) x4 (z13.1 17 0 j14) z13 z15 ez15) f_Y_note t_666 ⟨rfl, rfl⟩ ⟨Nat.le_of_ble_eq_true rfl, Nat.le_of_ble_eq_true rfl⟩ (q_recv (L := LY) (kc := 0) (ki := 0) hK hW okY0 rfl rfl) rfl hl.1 rfl (Nat.le_of_ble_eq_true rfl) d_Y_step_87 (fun H locs hW hS => ?_)
      refine lv_aload_n hx hb d_Y_step_90 rfl (lv_at hl 0 rfl) ?_
      refine lv_iload hx hb d_Y_step_91 (lv_at hl 1 rfl) ?_
      obtain ⟨z16, ez16, h⟩ := bnd h
      refine q_callVv (C := "DeficitNetModel") (As := [.int x4]) (rest := []) hx hb hml hown hts hK hW hS (c_Y_fill l G b x4 z15 z16 ez16) f_Y_fill t_673 ⟨rfl, rfl⟩ ⟨Nat.le_of_ble_eq_true rfl, Nat.le_of_ble_eq_true rfl⟩ (q_recv (L := LY) (kc := 0) (ki := 0) hK hW okY0 rfl rfl) rfl hl.1 rfl (Nat.le_of_ble_eq_true rfl) d_Y_step_93 (fun H locs hW hS => ?_)
      refine lv_iconst (v := (1 : Int32)) hx hb d_Y_step_96 (by decide) ?_
      obtain ⟨_, u17, h⟩ := bnd h
      exact q_zret hx hb hr hlk hK hW hS (bz_some u17) h d_Y_step_97
    · refine lv_aload_n hx hb d_Y_step_120 rfl (lv_at hl 0 rfl) ?_
      refine q_get (L := LY) (kc := 0) (ki := 0) (C := "DeficitNetModel") (T := T_Y) (N := 40) (ci := 5) (v := .ref (ad LY b 21 0)) hx hb hts in_Y hown hK hW okY0 rfl rfl 22 (by decide) t_502 rfl d_Y_step_121 ?_
      refine lv_iload hx hb d_Y_step_124 (lv_at hl 1 rfl) ?_
      refine lv_iconst (v := (-1 : Int32)) hx hb d_Y_step_126 (by decide) ?_
      obtain ⟨j19, ej19, h⟩ := bnd h
      refine q_iast (L := LY) (kc := 21) (ki := 0) hx hb hK hW hS okY21 (fun _ => rfl) ej19 d_Y_step_127 (fun H locs z20 ez20 hW hS => ?_)
      have h := stM_n h ez20
      refine lv_aload_n hx hb d_Y_step_128 rfl (lv_at hl 0 rfl) ?_
      refine q_get (L := LY) (kc := 0) (ki := 0) (C := "DeficitNetModel") (T := T_Y) (N := 40) (ci := 5) (v := .ref (ad LY b 23 0)) hx hb hts in_Y hown hK hW okY0 rfl rfl 24 (by decide) t_504 rfl d_Y_step_129 ?_
      refine lv_iconst (v := (4 : Int32)) hx hb d_Y_step_132 (by decide) ?_
      refine lv_iload hx hb d_Y_step_133 (lv_at hl 1 rfl) ?_
      refine lv_imul hx hb d_Y_step_135 ?_
      refine lv_iconst (v := (3 : Int32)) hx hb d_Y_step_136 (by decide) ?_
      refine lv_iadd hx hb d_Y_step_137 ?_
      refine lv_dup2_11 hx hb d_Y_step_138 rfl rfl ?_
      obtain ⟨j21, ej21, h⟩ := bnd h
      refine q_iald (L := LY) (kc := 23) (ki := 0) hx hb hK hW okY23 rfl ej21 d_Y_step_139 ?_
      refine lv_iconst (v := (1 : Int32)) hx hb d_Y_step_140 (by decide) ?_
      refine lv_iadd hx hb d_Y_step_141 ?_
      obtain ⟨j22, ej22, h⟩ := bnd h
      refine q_iast (L := LY) (kc := 23) (ki := 0) hx hb hK hW hS okY23 (fun _ => rfl) ej22 d_Y_step_142 (fun H locs z23 ez23 hW hS => ?_)
      have h := stM_n h ez23
      refine lv_aload_n hx hb d_Y_step_143 rfl (lv_at hl 0 rfl) ?_
      refine lv_iconst (v := (4 : Int32)) hx hb d_Y_step_144 (by decide) ?_
      refine lv_iload hx hb d_Y_step_145 (lv_at hl 1 rfl) ?_
      refine lv_aload_n hx hb d_Y_step_147 rfl (lv_at hl 0 rfl) ?_
      refine q_get (L := LY) (kc := 0) (ki := 0) (C := "DeficitNetModel") (T := T_Y) (N := 40) (ci := 5) (v := .ref (ad LY b 16 0)) hx hb hts in_Y hown hK hW okY0 rfl rfl 17 (by decide) t_497 rfl d_Y_step_148 ?_
      refine lv_iload hx hb d_Y_step_151 (lv_at hl 1 rfl) ?_
      obtain ⟨j24, ej24, h⟩ := bnd h
      refine q_iald (L := LY) (kc := 16) (ki := 0) hx hb hK hW okY16 rfl ej24 d_Y_step_153 ?_
      obtain ⟨z25, ez25, h⟩ := bnd h
      refine q_callVv (C := "DeficitNetModel") (As := [.int (4 : Int32), .int x4, .int (z23.1 16 0 j24)]) (rest := []) hx hb hml hown hts hK hW hS (c_Y_note l G b (4 : Int32) x4 (z23.1 16 0 j24) z23 z25 ez25) f_Y_note t_666 ⟨rfl, rfl⟩ ⟨Nat.le_of_ble_eq_true rfl, Nat.le_of_ble_eq_true rfl⟩ (q_recv (L := LY) (kc := 0) (ki := 0) hK hW okY0 rfl rfl) rfl hl.1 rfl (Nat.le_of_ble_eq_true rfl) d_Y_step_154 (fun H locs hW hS => ?_)
      refine lv_aload_n hx hb d_Y_step_157 rfl (lv_at hl 0 rfl) ?_
      refine q_get (L := LY) (kc := 0) (ki := 0) (C := "DeficitNetModel") (T := T_Y) (N := 40) (ci := 5) (v := .ref (ad LY b 17 0)) hx hb hts in_Y hown hK hW okY0 rfl rfl 18 (by decide) t_498 rfl d_Y_step_158 ?_
      refine lv_iload hx hb d_Y_step_161 (lv_at hl 1 rfl) ?_
      refine lv_aload_n hx hb d_Y_step_163 rfl (lv_at hl 0 rfl) ?_
      refine q_get (L := LY) (kc := 0) (ki := 0) (C := "DeficitNetModel") (T := T_Y) (N := 40) (ci := 5) (v := .ref (ad LY b 16 0)) hx hb hts in_Y hown hK hW okY0 rfl rfl 17 (by decide) t_497 rfl d_Y_step_164 ?_
      refine lv_iload hx hb d_Y_step_167 (lv_at hl 1 rfl) ?_
      obtain ⟨j26, ej26, h⟩ := bnd h
      refine q_iald (L := LY) (kc := 16) (ki := 0) hx hb hK hW okY16 rfl ej26 d_Y_step_169 ?_
      obtain ⟨j27, ej27, h⟩ := bnd h
      refine q_iast (L := LY) (kc := 17) (ki := 0) hx hb hK hW hS okY17 (fun _ => rfl) ej27 d_Y_step_170 (fun H locs z28 ez28 hW hS => ?_)
      have h := stM_n h ez28
      refine lv_aload_n hx hb d_Y_step_171 rfl (lv_at hl 0 rfl) ?_
      refine lv_iload hx hb d_Y_step_172 (lv_at hl 1 rfl) ?_
      obtain ⟨z29, ez29, h⟩ := bnd h
      refine q_callVv (C := "DeficitNetModel") (As := [.int x4]) (rest := []) hx hb hml hown hts hK hW hS (c_Y_fill l G b x4 z28 z29 ez29) f_Y_fill t_673 ⟨rfl, rfl⟩ ⟨Nat.le_of_ble_eq_true rfl, Nat.le_of_ble_eq_true rfl⟩ (q_recv (L := LY) (kc := 0) (ki := 0) hK hW okY0 rfl rfl) rfl hl.1 rfl (Nat.le_of_ble_eq_true rfl) d_Y_step_174 (fun H locs hW hS => ?_)
      refine lv_iconst (v := (1 : Int32)) hx hb d_Y_step_177 (by decide) ?_
      obtain ⟨_, u30, h⟩ := bnd h
      exact q_zret hx hb hr hlk hK hW hS (bz_some u30) h d_Y_step_178
    · refine lv_iconst (v := (0 : Int32)) hx hb d_Y_step_185 (by decide) ?_
      refine lv_istore hx hb d_Y_step_186 hl (by decide) rfl (fun ls hl => ?_)
      have hl : lv_has ls 5 [(4, .int (0 : Int32)), (0, .ref (ad LY b 0 0)), (3, .int x3)] := hl
      refine w_Y_step_188 ⟨hx, hb, hml, hr, hown, hts, hlk, hK⟩ (fun x4 z34 ls H locs  hW hS hl h => ?_) (fun z37 ls H locs  hW hS hl h => ?_) FU x3 (0 : Int32) z31 ls H locs  hW hS (lv_sub hl [1, 2, 0] rfl) h
      · refine lv_aload_n hx hb d_Y_step_217 rfl (lv_at hl 0 rfl) ?_
        refine lv_iload hx hb d_Y_step_218 (lv_at hl 1 rfl) ?_
        obtain ⟨z35, ez35, h⟩ := bnd h
        refine q_callVv (C := "DeficitNetModel") (As := [.int x4]) (rest := []) hx hb hml hown hts hK hW hS (c_Y_moved l G b x4 z34 z35 ez35) f_Y_moved t_722 ⟨rfl, rfl⟩ ⟨Nat.le_of_ble_eq_true rfl, Nat.le_of_ble_eq_true rfl⟩ (q_recv (L := LY) (kc := 0) (ki := 0) hK hW okY0 rfl rfl) rfl hl.1 rfl (Nat.le_of_ble_eq_true rfl) d_Y_step_220 (fun H locs hW hS => ?_)
        refine lv_iconst (v := (1 : Int32)) hx hb d_Y_step_223 (by decide) ?_
        obtain ⟨_, u36, h⟩ := bnd h
        exact q_zret hx hb hr hlk hK hW hS (bz_some u36) h d_Y_step_224
      · refine lv_iconst (v := (1 : Int32)) hx hb d_Y_step_231 (by decide) ?_
        obtain ⟨_, u38, h⟩ := bnd h
        exact q_zret hx hb hr hlk hK hW hS (bz_some u38) h d_Y_step_232
  · have h := ite_t h hc
    refine lv_iconst (v := (0 : Int32)) hx hb d_Y_step_15 (by decide) ?_
    obtain ⟨_, u39, h⟩ := bnd h
    exact q_zret hx hb hr hlk hK hW hS (bz_some u39) h d_Y_step_16
set_option maxHeartbeats 4000000 in
set_option maxRecDepth 100000 in
theorem w_Y_run_14 {p : Program} {l : Launch} {e : Env} {s : State} {m : MethodId} {args : Array Value} {below : List Frame} {meth : Method} {c : Code} {G : GG} {b : Nat} {r0 : Int32} {z0 : Mem} (C : Cx y_Y_run b_Y_run 3 (some .int) p s m args meth c G) {k32 : Int32 → Mem → Option (Int32 × Mem)} 
    (hk32 : ∀ (x2 : Int32) (z : Mem) (ls : Array Slot) (H : Heap) (locs : List Loc), Wd LY G b z H → va_S (rgL LY b) s.heap H locs → lv_has ls 3 [(2, .int x2)] → k32 x2 z = some (r0, z0) → W p l e rm_Y_run s m args below meth c H locs 0 0 (MQ below (QI LY G b r0 z0) args s 0 0 (rgL LY b)) (F0 m 32 ls [])) :
    ∀ (n : Nat) (x1 : Int32) (x2 : Int32) (z : Mem) (ls : Array Slot) (H : Heap) (locs : List Loc), Wd LY G b z H → va_S (rgL LY b) s.heap H locs → lv_has ls 3 [(0, .ref (ad LY b 0 0)), (1, .int x1), (2, .int x2)] → dn_Y_run_14 k32 n x1 x2 z = some (r0, z0) → W p l e rm_Y_run s m args below meth c H locs 0 0 (MQ below (QI LY G b r0 z0) args s 0 0 (rgL LY b)) (F0 m 14 ls []) := by
  obtain ⟨hx, hb, hml, hr, hown, hts, hlk, hK⟩ := C
  intro n
  induction n with
  | zero =>
    intro x1 x2 z ls H locs  hW hS hl h
    cases h
  | succ n ih =>
    intro x1 x2 z ls H locs  hW hS hl h
    rw [dn_Y_run_14] at h
    refine lv_iload_n hx hb d_Y_run_14 rfl (lv_at hl 2 rfl) ?_
    refine lv_iload_n hx hb d_Y_run_15 rfl (lv_at hl 1 rfl) ?_
    refine lv_icmp_ge (tgt := 32) hx hb d_Y_run_16 (by decide) (fun hc => ?_) (fun hc => ?_)
    · have h := ite_t h hc
      exact hk32 x2 z ls H locs  hW hS (lv_sub hl [2] rfl) h
    · have h := ite_f h hc
      refine lv_aload_n hx hb d_Y_run_19 rfl (lv_at hl 0 rfl) ?_
      obtain ⟨⟨v1, z1⟩, er1, h⟩ := bnd h
      refine q_callVi (C := "DeficitNetModel") (As := []) (rest := []) hx hb hml hown hts hK hW hS (c_Y_step l G b z v1 z1 er1) f_Y_step t_734 ⟨rfl, rfl⟩ ⟨Nat.le_of_ble_eq_true rfl, Nat.le_of_ble_eq_true rfl⟩ (q_recv (L := LY) (kc := 0) (ki := 0) hK hW okY0 rfl rfl) rfl hl.1 rfl (Nat.le_of_ble_eq_true rfl) d_Y_run_20 (fun H locs hW hS => ?_)
      refine lv_if_eq (tgt := 32) hx hb d_Y_run_23 (by decide) (fun hc => ?_) (fun hc => ?_)
      · have h := ite_t h hc
        exact hk32 x2 z1 ls H locs  hW hS (lv_sub hl [2] rfl) h
      · have h := ite_f h hc
        refine lv_iinc (k := 2) (v := (x2 + (1 : Int32))) hx hb d_Y_run_26 hl rfl rfl (by decide) rfl (fun ls hl => ?_)
        have hl : lv_has ls 3 [(2, .int (x2 + (1 : Int32))), (0, .ref (ad LY b 0 0)), (1, .int x1)] := hl
        refine lv_goto (tgt := 14) hx hb d_Y_run_29 (by decide) ?_
        exact ih x1 (x2 + (1 : Int32)) z1 ls H locs  hW hS (lv_sub hl [1, 2, 0] rfl) h
set_option maxHeartbeats 4000000 in
set_option maxRecDepth 100000 in
theorem c_Y_run (l : Launch) (G : GG) (b : Nat) (x1 : Int32) (z : Mem) (r0 : Int32) (z0 : Mem) (h : dn_Y_run x1 z = some (r0, z0)) : MtW l y_Y_run b_Y_run 3 (some .int) rm_Y_run LY G b [.ref (ad LY b 0 0), .int x1] z (QI LY G b r0 z0) := by
  refine mtW_of (by decide) (Nat.le_of_ble_eq_true rfl) ?_
  intro p e s m args below meth c ls H locs C hW hS hl
  obtain ⟨hx, hb, hml, hr, hown, hts, hlk, hK⟩ := C
  have hl : lv_has ls 3 [(0, .ref (ad LY b 0 0)), (1, .int x1)] := hl
  unfold dn_Y_run at h
  refine lv_iload_n hx hb d_Y_run_0 rfl (lv_at hl 1 rfl) ?_
  refine lv_if_lt (tgt := 10) hx hb d_Y_run_1 (by decide) (fun hc => ?_) (fun hc => ?_)
  · have h := ite_t h hc
    refine lv_iconst (v := (-1 : Int32)) hx hb d_Y_run_10 (by decide) ?_
    exact q_iret hx hb hr hlk hK hW hS h d_Y_run_11
  · have h := ite_f h hc
    refine lv_iload_n hx hb d_Y_run_4 rfl (lv_at hl 1 rfl) ?_
    refine lv_bipush (v := (50 : Int32)) hx hb d_Y_run_5 (by decide) ?_
    refine lv_icmp_le (tgt := 12) hx hb d_Y_run_7 (by decide) (fun hc => ?_) (fun hc => ?_)
    · have h := ite_t h hc
      refine lv_iconst (v := (0 : Int32)) hx hb d_Y_run_12 (by decide) ?_
      refine lv_istore_n hx hb d_Y_run_13 rfl hl (by decide) rfl (fun ls hl => ?_)
      have hl : lv_has ls 3 [(2, .int (0 : Int32)), (0, .ref (ad LY b 0 0)), (1, .int x1)] := hl
      refine w_Y_run_14 ⟨hx, hb, hml, hr, hown, hts, hlk, hK⟩ (fun x2 z2 ls H locs  hW hS hl h => ?_) FU x1 (0 : Int32) z ls H locs  hW hS (lv_sub hl [1, 2, 0] rfl) h
      · refine lv_iload_n hx hb d_Y_run_32 rfl (lv_at hl 0 rfl) ?_
        exact q_iret hx hb hr hlk hK hW hS h d_Y_run_33
    · have h := ite_f h hc
      refine lv_iconst (v := (-1 : Int32)) hx hb d_Y_run_10 (by decide) ?_
      exact q_iret hx hb hr hlk hK hW hS h d_Y_run_11
set_option maxHeartbeats 4000000 in
set_option maxRecDepth 100000 in
theorem c_Y_now (l : Launch) (G : GG) (b : Nat) (z : Mem) (r0 : Int32) (z0 : Mem) (h : dn_Y_now z = some (r0, z0)) : MtW l y_Y_now b_Y_now 1 (some .int) rm_Y_now LY G b [.ref (ad LY b 0 0)] z (QI LY G b r0 z0) := by
  refine mtW_of (by decide) (Nat.le_of_ble_eq_true rfl) ?_
  intro p e s m args below meth c ls H locs C hW hS hl
  obtain ⟨hx, hb, hml, hr, hown, hts, hlk, hK⟩ := C
  have hl : lv_has ls 1 [(0, .ref (ad LY b 0 0))] := hl
  unfold dn_Y_now at h
  refine lv_aload_n hx hb d_Y_now_0 rfl (lv_at hl 0 rfl) ?_
  refine q_get (L := LY) (kc := 0) (ki := 0) (C := "DeficitNetModel") (T := T_Y) (N := 40) (ci := 5) (v := .int (z.1 0 0 36)) hx hb hts in_Y hown hK hW okY0 rfl rfl 36 (by decide) t_516 rfl d_Y_now_1 ?_
  exact q_iret hx hb hr hlk hK hW hS h d_Y_now_4
set_option maxHeartbeats 4000000 in
set_option maxRecDepth 100000 in
theorem c_Y_trace (l : Launch) (G : GG) (b : Nat) (x1 : Int32) (z : Mem) (r0 : Int64) (z0 : Mem) (h : dn_Y_trace x1 z = some (r0, z0)) : MtW l y_Y_trace b_Y_trace 2 (some .long) rm_Y_trace LY G b [.ref (ad LY b 0 0), .int x1] z (QJ LY G b r0 z0) := by
  refine mtW_of (by decide) (Nat.le_of_ble_eq_true rfl) ?_
  intro p e s m args below meth c ls H locs C hW hS hl
  obtain ⟨hx, hb, hml, hr, hown, hts, hlk, hK⟩ := C
  have hl : lv_has ls 2 [(0, .ref (ad LY b 0 0)), (1, .int x1)] := hl
  unfold dn_Y_trace at h
  refine lv_iload_n hx hb d_Y_trace_0 rfl (lv_at hl 1 rfl) ?_
  refine lv_if_lt (tgt := 18) hx hb d_Y_trace_1 (by decide) (fun hc => ?_) (fun hc => ?_)
  · have h := ite_t h hc
    refine lv_ldc2 (v := (-1 : Int64)) hx hb hown (hts _ t_743) d_Y_trace_18 ?_
    refine lv_goto (tgt := 40) hx hb d_Y_trace_21 (by decide) ?_
    exact q_jret hx hb hr hlk hK hW hS h d_Y_trace_40
  · have h := ite_f h hc
    refine lv_iload_n hx hb d_Y_trace_4 rfl (lv_at hl 1 rfl) ?_
    refine lv_bipush (v := (15 : Int32)) hx hb d_Y_trace_5 (by decide) ?_
    refine lv_icmp_gt (tgt := 18) hx hb d_Y_trace_7 (by decide) (fun hc => ?_) (fun hc => ?_)
    · have h := ite_t h hc
      refine lv_ldc2 (v := (-1 : Int64)) hx hb hown (hts _ t_743) d_Y_trace_18 ?_
      refine lv_goto (tgt := 40) hx hb d_Y_trace_21 (by decide) ?_
      exact q_jret hx hb hr hlk hK hW hS h d_Y_trace_40
    · have h := ite_f h hc
      refine lv_iload_n hx hb d_Y_trace_10 rfl (lv_at hl 1 rfl) ?_
      refine lv_aload_n hx hb d_Y_trace_11 rfl (lv_at hl 0 rfl) ?_
      refine q_get (L := LY) (kc := 0) (ki := 0) (C := "DeficitNetModel") (T := T_Y) (N := 40) (ci := 5) (v := .int (z.1 0 0 38)) hx hb hts in_Y hown hK hW okY0 rfl rfl 38 (by decide) t_518 rfl d_Y_trace_12 ?_
      refine lv_icmp_lt (tgt := 24) hx hb d_Y_trace_15 (by decide) (fun hc => ?_) (fun hc => ?_)
      · have h := ite_t h hc
        refine lv_aload_n hx hb d_Y_trace_24 rfl (lv_at hl 0 rfl) ?_
        refine q_get (L := LY) (kc := 0) (ki := 0) (C := "DeficitNetModel") (T := T_Y) (N := 40) (ci := 5) (v := .ref (ad LY b 34 0)) hx hb hts in_Y hown hK hW okY0 rfl rfl 39 (by decide) t_519 rfl d_Y_trace_25 ?_
        refine lv_aload_n hx hb d_Y_trace_28 rfl (lv_at hl 0 rfl) ?_
        refine q_get (L := LY) (kc := 0) (ki := 0) (C := "DeficitNetModel") (T := T_Y) (N := 40) (ci := 5) (v := .int (z.1 0 0 38)) hx hb hts in_Y hown hK hW okY0 rfl rfl 38 (by decide) t_518 rfl d_Y_trace_29 ?_
        refine lv_iconst (v := (1 : Int32)) hx hb d_Y_trace_32 (by decide) ?_
        refine lv_isub hx hb d_Y_trace_33 ?_
        refine lv_iload_n hx hb d_Y_trace_34 rfl (lv_at hl 1 rfl) ?_
        refine lv_isub hx hb d_Y_trace_35 ?_
        refine lv_bipush (v := (16 : Int32)) hx hb d_Y_trace_36 (by decide) ?_
        refine lv_irem hx hb d_Y_trace_38 (by decide) ?_
        obtain ⟨j1, ej1, h⟩ := bnd h
        refine q_lald (L := LY) (kc := 34) (ki := 0) hx hb hK hW okY34 rfl ej1 d_Y_trace_39 ?_
        exact q_jret hx hb hr hlk hK hW hS h d_Y_trace_40
      · have h := ite_f h hc
        refine lv_ldc2 (v := (-1 : Int64)) hx hb hown (hts _ t_743) d_Y_trace_18 ?_
        refine lv_goto (tgt := 40) hx hb d_Y_trace_21 (by decide) ?_
        exact q_jret hx hb hr hlk hK hW hS h d_Y_trace_40
