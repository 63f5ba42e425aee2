set_option maxHeartbeats 4000000 in
set_option maxRecDepth 100000 in
theorem w_J_fillX16_6 {p : Program} {l : Launch} {e : Env} {s : State} {m : MethodId} {args : Array Value} {below : List Frame} {meth : Method} {c : Code} {G : GG} {b : Nat} {z0 : Mem} (C : Cx y_J_fill1 b_J_fill1 5 none p s m args meth c G) {k22 : Mem → Option Mem} 
    (hk22 : ∀  (z : Mem) (ls : Array Slot) (H : Heap) (locs : List Loc), Wd LX G b z H → va_S (rgL LX b) s.heap H locs → lv_has ls 5 [] → k22  z = some z0 → W p l e rm_J_fillX16 s m args below meth c H locs 0 0 (MQ below (QV LX G b z0) args s 0 0 (rgL LX b)) (F0 m 22 ls [])) :
    ∀ (n : Nat) (x1 : Int64) (x3 : Int32) (x4 : Int32) (z : Mem) (ls : Array Slot) (H : Heap) (locs : List Loc), Wd LX G b z H → va_S (rgL LX b) s.heap H locs → lv_has ls 5 [(0, .ref (ad LX b 16 0)), (1, .long x1), (3, .int x3), (4, .int x4)] → dn_J_fillX16_6 k22 n x1 x3 x4 z = some z0 → W p l e rm_J_fillX16 s m args below meth c H locs 0 0 (MQ below (QV LX G b z0) args s 0 0 (rgL LX b)) (F0 m 6 ls []) := by
  obtain ⟨hx, hb, hml, hr, hown, hts, hlk, hK⟩ := C
  intro n
  induction n with
  | zero =>
    intro x1 x3 x4 z ls H locs  hW hS hl h
    cases h
  | succ n ih =>
    intro x1 x3 x4 z ls H locs  hW hS hl h
    rw [dn_J_fillX16_6] at h
    refine lv_iload_n hx hb d_J_fill1_6 rfl (lv_at hl 2 rfl) ?_
    refine lv_iload hx hb d_J_fill1_7 (lv_at hl 3 rfl) ?_
    refine lv_icmp_ge (tgt := 22) hx hb d_J_fill1_9 (by decide) (fun hc => ?_) (fun hc => ?_)
    · have h := ite_t h hc
      exact hk22  z ls H locs  hW hS (lv_sub hl [] rfl) h
    · have h := ite_f h hc
      refine lv_aload_n hx hb d_J_fill1_12 rfl (lv_at hl 0 rfl) ?_
      refine lv_iload_n hx hb d_J_fill1_13 rfl (lv_at hl 2 rfl) ?_
      refine lv_lload_n hx hb d_J_fill1_14 rfl (lv_at hl 1 rfl) ?_
      obtain ⟨j1, ej1, h⟩ := bnd h
      refine q_last (L := LX) (kl := 16) hx hb hK hW hS lnX (fun _ => rfl) ej1 d_J_fill1_15 (fun H locs z2 ez2 hW hS => ?_)
      have h := stM_n h ez2
      refine lv_iinc (k := 2) (v := (x3 + (1 : Int32))) hx hb d_J_fill1_16 hl rfl rfl (by decide) rfl (fun ls hl => ?_)
      have hl : lv_has ls 5 [(3, .int (x3 + (1 : Int32))), (0, .ref (ad LX b 16 0)), (1, .long x1), (4, .int x4)] := hl
      refine lv_goto (tgt := 6) hx hb d_J_fill1_19 (by decide) ?_
      exact ih x1 (x3 + (1 : Int32)) x4 z2 ls H locs  hW hS (lv_sub hl [1, 2, 0, 3] rfl) h
set_option maxHeartbeats 4000000 in
set_option maxRecDepth 100000 in
theorem c_J_fillX16 (l : Launch) (G : GG) (b : Nat) (x1 : Int64) (z : Mem) (z0 : Mem) (h : dn_J_fillX16 x1 z = some z0) : MtW l y_J_fill1 b_J_fill1 5 none rm_J_fillX16 LX G b [.ref (ad LX b 16 0), .long x1] z (QV LX G b z0) := by
  refine mtW_of (by decide) (Nat.le_of_ble_eq_true rfl) ?_
  intro p e s m args below meth c ls H locs C hW hS hl
  obtain ⟨hx, hb, hml, hr, hown, hts, hlk, hK⟩ := C
  have hl : lv_has ls 5 [(0, .ref (ad LX b 16 0)), (1, .long x1)] := hl
  unfold dn_J_fillX16 at h
  refine lv_iconst (v := (0 : Int32)) hx hb d_J_fill1_0 (by decide) ?_
  refine lv_istore_n hx hb d_J_fill1_1 rfl hl (by decide) rfl (fun ls hl => ?_)
  have hl : lv_has ls 5 [(3, .int (0 : Int32)), (0, .ref (ad LX b 16 0)), (1, .long x1)] := hl
  refine lv_aload_n hx hb d_J_fill1_2 rfl (lv_at hl 1 rfl) ?_
  refine q_alen (L := LX) (kc := 16) (ki := 0) (t0 := 1) (ty := .long) (v := (16 : Int32)) hx hb hK hW okX16 rfl rfl rfl d_J_fill1_3 ?_
  refine lv_istore hx hb d_J_fill1_4 hl (by decide) rfl (fun ls hl => ?_)
  have hl : lv_has ls 5 [(4, .int (16 : Int32)), (3, .int (0 : Int32)), (0, .ref (ad LX b 16 0)), (1, .long x1)] := hl
  refine w_J_fillX16_6 ⟨hx, hb, hml, hr, hown, hts, hlk, hK⟩ (fun z3 ls H locs  hW hS hl h => ?_) FU x1 (0 : Int32) (16 : Int32) z ls H locs  hW hS (lv_sub hl [2, 3, 1, 0] rfl) h
  · exact q_vret hx hb hr hlk hK hW hS h d_J_fill1_22
set_option maxHeartbeats 4000000 in
set_option maxRecDepth 100000 in
theorem w_X_clear_22 {p : Program} {l : Launch} {e : Env} {s : State} {m : MethodId} {args : Array Value} {below : List Frame} {meth : Method} {c : Code} {G : GG} {b : Nat} {z0 : Mem} (C : Cx y_X_clear b_X_clear 2 none p s m args meth c G) {k53 : Mem → Option Mem} 
    (hk53 : ∀  (z : Mem) (ls : Array Slot) (H : Heap) (locs : List Loc), Wd LX G b z H → va_S (rgL LX b) s.heap H locs → lv_has ls 2 [(0, .ref (ad LX b 0 0))] → k53  z = some z0 → W p l e rm_X_clear s m args below meth c H locs 0 0 (MQ below (QV LX G b z0) args s 0 0 (rgL LX b)) (F0 m 53 ls [])) :
    ∀ (n : Nat) (x1 : Int32) (z : Mem) (ls : Array Slot) (H : Heap) (locs : List Loc), Wd LX G b z H → va_S (rgL LX b) s.heap H locs → lv_has ls 2 [(0, .ref (ad LX b 0 0)), (1, .int x1)] → dn_X_clear_22 k53 n x1 z = some z0 → W p l e rm_X_clear s m args below meth c H locs 0 0 (MQ below (QV LX G b z0) args s 0 0 (rgL LX b)) (F0 m 22 ls []) := by
  obtain ⟨hx, hb, hml, hr, hown, hts, hlk, hK⟩ := C
  intro n
  induction n with
  | zero =>
    intro x1 z ls H locs  hW hS hl h
    cases h
  | succ n ih =>
    intro x1 z ls H locs  hW hS hl h
    rw [dn_X_clear_22] at h
    refine lv_iload_n hx hb d_X_clear_22 rfl (lv_at hl 1 rfl) ?_
    refine lv_bipush (v := (8 : Int32)) hx hb d_X_clear_23 (by decide) ?_
    refine lv_icmp_ge (tgt := 53) hx hb d_X_clear_25 (by decide) (fun hc => ?_) (fun hc => ?_)
    · have h := ite_t h hc
      exact hk53  z ls H locs  hW hS (lv_sub hl [0] rfl) h
    · have h := ite_f h hc
      refine lv_aload_n hx hb d_X_clear_28 rfl (lv_at hl 0 rfl) ?_
      refine q_get (L := LX) (kc := 0) (ki := 0) (C := "DeficitNet") (T := T_X) (N := 10) (ci := 0) (v := .ref (ad LX b 1 0)) hx hb hts in_X hown hK hW okX0 rfl rfl 0 (by decide) t_221 rfl d_X_clear_29 ?_
      refine lv_iload_n hx hb d_X_clear_32 rfl (lv_at hl 1 rfl) ?_
      obtain ⟨j6, ej6, h⟩ := bnd h
      refine q_aald (t0 := 3) (ty := (.array .int)) (kd := 2) (L := LX) (kc := 1) (ki := 0) hx hb hK hW okX1 rfl rfl rfl ej6 d_X_clear_33 ?_
      refine lv_iconst (v := (-1 : Int32)) hx hb d_X_clear_34 (by decide) ?_
      obtain ⟨z7, ez7, h⟩ := bnd h
      refine q_callSv (As := [.ref (ad LX b 2 j6), .int (-1 : Int32)]) (rest := []) hx hb hml hown hts hK hW hS (c_J_fillX2 l G b j6 (-1 : Int32) z z7 (aix_lt ej6) ez7) f_J_fill0 t_209 ⟨rfl, rfl⟩ ⟨Nat.le_of_ble_eq_true rfl, Nat.le_of_ble_eq_true rfl⟩ rfl hl.1 rfl (Nat.le_of_ble_eq_true rfl) d_X_clear_35 (fun H locs hW hS => ?_)
      refine lv_aload_n hx hb d_X_clear_38 rfl (lv_at hl 0 rfl) ?_
      refine q_get (L := LX) (kc := 0) (ki := 0) (C := "DeficitNet") (T := T_X) (N := 10) (ci := 0) (v := .ref (ad LX b 1 0)) hx hb hts in_X hown hK hW okX0 rfl rfl 0 (by decide) t_221 rfl d_X_clear_39 ?_
      refine lv_iload_n hx hb d_X_clear_42 rfl (lv_at hl 1 rfl) ?_
      obtain ⟨j8, ej8, h⟩ := bnd h
      refine q_aald (t0 := 3) (ty := (.array .int)) (kd := 2) (L := LX) (kc := 1) (ki := 0) hx hb hK hW okX1 rfl rfl rfl ej8 d_X_clear_43 ?_
      refine lv_iload_n hx hb d_X_clear_44 rfl (lv_at hl 1 rfl) ?_
      refine lv_iconst (v := (0 : Int32)) hx hb d_X_clear_45 (by decide) ?_
      obtain ⟨j9, ej9, h⟩ := bnd h
      refine q_iast (L := LX) (kc := 2) (ki := j8) hx hb hK hW hS (okX2 (aix_lt ej8)) (fun _ => rfl) ej9 d_X_clear_46 (fun H locs z10 ez10 hW hS => ?_)
      have h := stM_n h ez10
      refine lv_iinc (k := 1) (v := (x1 + (1 : Int32))) hx hb d_X_clear_47 hl rfl rfl (by decide) rfl (fun ls hl => ?_)
      have hl : lv_has ls 2 [(1, .int (x1 + (1 : Int32))), (0, .ref (ad LX b 0 0))] := hl
      refine lv_goto (tgt := 22) hx hb d_X_clear_50 (by decide) ?_
      exact ih (x1 + (1 : Int32)) z10 ls H locs  hW hS (lv_sub hl [1, 0] rfl) h
set_option maxHeartbeats 4000000 in
set_option maxRecDepth 100000 in
theorem w_X_clear_55 {p : Program} {l : Launch} {e : Env} {s : State} {m : MethodId} {args : Array Value} {below : List Frame} {meth : Method} {c : Code} {G : GG} {b : Nat} {z0 : Mem} (C : Cx y_X_clear b_X_clear 2 none p s m args meth c G) {k77 : Mem → Option Mem} 
    (hk77 : ∀  (z : Mem) (ls : Array Slot) (H : Heap) (locs : List Loc), Wd LX G b z H → va_S (rgL LX b) s.heap H locs → lv_has ls 2 [(0, .ref (ad LX b 0 0))] → k77  z = some z0 → W p l e rm_X_clear s m args below meth c H locs 0 0 (MQ below (QV LX G b z0) args s 0 0 (rgL LX b)) (F0 m 77 ls [])) :
    ∀ (n : Nat) (x1 : Int32) (z : Mem) (ls : Array Slot) (H : Heap) (locs : List Loc), Wd LX G b z H → va_S (rgL LX b) s.heap H locs → lv_has ls 2 [(0, .ref (ad LX b 0 0)), (1, .int x1)] → dn_X_clear_55 k77 n x1 z = some z0 → W p l e rm_X_clear s m args below meth c H locs 0 0 (MQ below (QV LX G b z0) args s 0 0 (rgL LX b)) (F0 m 55 ls []) := by
  obtain ⟨hx, hb, hml, hr, hown, hts, hlk, hK⟩ := C
  intro n
  induction n with
  | zero =>
    intro x1 z ls H locs  hW hS hl h
    cases h
  | succ n ih =>
    intro x1 z ls H locs  hW hS hl h
    rw [dn_X_clear_55] at h
    refine lv_iload_n hx hb d_X_clear_55 rfl (lv_at hl 1 rfl) ?_
    refine lv_bipush (v := (64 : Int32)) hx hb d_X_clear_56 (by decide) ?_
    refine lv_icmp_ge (tgt := 77) hx hb d_X_clear_58 (by decide) (fun hc => ?_) (fun hc => ?_)
    · have h := ite_t h hc
      exact hk77  z ls H locs  hW hS (lv_sub hl [0] rfl) h
    · have h := ite_f h hc
      refine lv_aload_n hx hb d_X_clear_61 rfl (lv_at hl 0 rfl) ?_
      refine q_get (L := LX) (kc := 0) (ki := 0) (C := "DeficitNet") (T := T_X) (N := 10) (ci := 0) (v := .ref (ad LX b 10 0)) hx hb hts in_X hown hK hW okX0 rfl rfl 3 (by decide) t_224 rfl d_X_clear_62 ?_
      refine lv_iload_n hx hb d_X_clear_65 rfl (lv_at hl 1 rfl) ?_
      obtain ⟨j12, ej12, h⟩ := bnd h
      refine q_aald (t0 := 6) (ty := (.object "DeficitNet$Packet")) (kd := 11) (L := LX) (kc := 10) (ki := 0) hx hb hK hW okX10 rfl rfl rfl ej12 d_X_clear_66 ?_
      refine lv_iconst (v := (0 : Int32)) hx hb d_X_clear_67 (by decide) ?_
      obtain ⟨_, u13, h⟩ := bnd h
      refine q_put (L := LX) (kc := 11) (ki := j12) (C := "DeficitNet$Packet") (T := T_K) (N := 7) (ci := 3) hx hb hts in_K ty_K tyok_K nm_K hown hK hW hS (okX11 (aix_lt ej12)) rfl rfl 0 (by decide) t_157 rfl (bz_nar (bz_some u13)) (bz_fit (bz_some u13)) (Nat.le_of_ble_eq_true rfl) rfl d_X_clear_68 (fun H locs z14 ez14 hW hS => ?_)
      have h := stM_n h ez14
      refine lv_iinc (k := 1) (v := (x1 + (1 : Int32))) hx hb d_X_clear_71 hl rfl rfl (by decide) rfl (fun ls hl => ?_)
      have hl : lv_has ls 2 [(1, .int (x1 + (1 : Int32))), (0, .ref (ad LX b 0 0))] := hl
      refine lv_goto (tgt := 55) hx hb d_X_clear_74 (by decide) ?_
      exact ih (x1 + (1 : Int32)) z14 ls H locs  hW hS (lv_sub hl [1, 0] rfl) h
set_option maxHeartbeats 4000000 in
set_option maxRecDepth 100000 in
theorem c_X_clear (l : Launch) (G : GG) (b : Nat) (z : Mem) (z0 : Mem) (h : dn_X_clear z = some z0) : MtW l y_X_clear b_X_clear 2 none rm_X_clear LX G b [.ref (ad LX b 0 0)] z (QV LX G b z0) := by
  refine mtW_of (by decide) (Nat.le_of_ble_eq_true rfl) ?_
  intro p e s m args below meth c ls H locs C hW hS hl
  obtain ⟨hx, hb, hml, hr, hown, hts, hlk, hK⟩ := C
  have hl : lv_has ls 2 [(0, .ref (ad LX b 0 0))] := hl
  unfold dn_X_clear at h
  refine lv_aload_n hx hb d_X_clear_0 rfl (lv_at hl 0 rfl) ?_
  refine lv_iconst (v := (0 : Int32)) hx hb d_X_clear_1 (by decide) ?_
  obtain ⟨_, u1, h⟩ := bnd h
  refine q_put (L := LX) (kc := 0) (ki := 0) (C := "DeficitNet") (T := T_X) (N := 10) (ci := 0) hx hb hts in_X ty_X tyok_X nm_X hown hK hW hS okX0 rfl rfl 9 (by decide) t_230 rfl (bz_nar (bz_some u1)) (bz_fit (bz_some u1)) (Nat.le_of_ble_eq_true rfl) rfl d_X_clear_2 (fun H locs z2 ez2 hW hS => ?_)
  have h := stM_n h ez2
  refine lv_aload_n hx hb d_X_clear_5 rfl (lv_at hl 0 rfl) ?_
  refine lv_iconst (v := (0 : Int32)) hx hb d_X_clear_6 (by decide) ?_
  refine q_put (L := LX) (kc := 0) (ki := 0) (C := "DeficitNet") (T := T_X) (N := 10) (ci := 0) hx hb hts in_X ty_X tyok_X nm_X hown hK hW hS okX0 rfl rfl 8 (by decide) t_229 rfl rfl rfl (Nat.le_of_ble_eq_true rfl) rfl d_X_clear_7 (fun H locs z3 ez3 hW hS => ?_)
  have h := stM_n h ez3
  refine lv_aload_n hx hb d_X_clear_10 rfl (lv_at hl 0 rfl) ?_
  refine lv_iconst (v := (0 : Int32)) hx hb d_X_clear_11 (by decide) ?_
  refine q_put (L := LX) (kc := 0) (ki := 0) (C := "DeficitNet") (T := T_X) (N := 10) (ci := 0) hx hb hts in_X ty_X tyok_X nm_X hown hK hW hS okX0 rfl rfl 6 (by decide) t_227 rfl rfl rfl (Nat.le_of_ble_eq_true rfl) rfl d_X_clear_12 (fun H locs z4 ez4 hW hS => ?_)
  have h := stM_n h ez4
  refine lv_aload_n hx hb d_X_clear_15 rfl (lv_at hl 0 rfl) ?_
  refine lv_iconst (v := (0 : Int32)) hx hb d_X_clear_16 (by decide) ?_
  refine q_put (L := LX) (kc := 0) (ki := 0) (C := "DeficitNet") (T := T_X) (N := 10) (ci := 0) hx hb hts in_X ty_X tyok_X nm_X hown hK hW hS okX0 rfl rfl 7 (by decide) t_228 rfl rfl rfl (Nat.le_of_ble_eq_true rfl) rfl d_X_clear_17 (fun H locs z5 ez5 hW hS => ?_)
  have h := stM_n h ez5
  refine lv_iconst (v := (0 : Int32)) hx hb d_X_clear_20 (by decide) ?_
  refine lv_istore_n hx hb d_X_clear_21 rfl hl (by decide) rfl (fun ls hl => ?_)
  have hl : lv_has ls 2 [(1, .int (0 : Int32)), (0, .ref (ad LX b 0 0))] := hl
  refine w_X_clear_22 ⟨hx, hb, hml, hr, hown, hts, hlk, hK⟩ (fun z11 ls H locs  hW hS hl h => ?_) FU (0 : Int32) z5 ls H locs  hW hS (lv_sub hl [1, 0] rfl) h
  · refine lv_iconst (v := (0 : Int32)) hx hb d_X_clear_53 (by decide) ?_
    refine lv_istore_n hx hb d_X_clear_54 rfl hl (by decide) rfl (fun ls hl => ?_)
    have hl : lv_has ls 2 [(1, .int (0 : Int32)), (0, .ref (ad LX b 0 0))] := hl
    refine w_X_clear_55 ⟨hx, hb, hml, hr, hown, hts, hlk, hK⟩ (fun z15 ls H locs  hW hS hl h => ?_) FU (0 : Int32) z11 ls H locs  hW hS (lv_sub hl [1, 0] rfl) h
    · refine lv_aload_n hx hb d_X_clear_77 rfl (lv_at hl 0 rfl) ?_
      refine q_get (L := LX) (kc := 0) (ki := 0) (C := "DeficitNet") (T := T_X) (N := 10) (ci := 0) (v := .ref (ad LX b 12 0)) hx hb hts in_X hown hK hW okX0 rfl rfl 4 (by decide) t_225 rfl d_X_clear_78 ?_
      obtain ⟨z16, ez16, h⟩ := bnd h
      refine q_callVv (C := "DeficitNet$Agenda") (As := []) (rest := []) hx hb hml hown hts hK hW hS (c_A_unsetAll l G b z15 z16 ez16) f_A_unsetAll t_212 ⟨rfl, rfl⟩ ⟨Nat.le_of_ble_eq_true rfl, Nat.le_of_ble_eq_true rfl⟩ (q_recv (L := LX) (kc := 12) (ki := 0) hK hW okX12 rfl rfl) rfl hl.1 rfl (Nat.le_of_ble_eq_true rfl) d_X_clear_81 (fun H locs hW hS => ?_)
      refine lv_aload_n hx hb d_X_clear_84 rfl (lv_at hl 0 rfl) ?_
      refine q_get (L := LX) (kc := 0) (ki := 0) (C := "DeficitNet") (T := T_X) (N := 10) (ci := 0) (v := .ref (ad LX b 16 0)) hx hb hts in_X hown hK hW okX0 rfl rfl 5 (by decide) t_226 rfl d_X_clear_85 ?_
      refine lv_ldc2 (v := (-1 : Int64)) hx hb hown (hts _ t_217) d_X_clear_88 ?_
      obtain ⟨z17, ez17, h⟩ := bnd h
      refine q_callSv (As := [.ref (ad LX b 16 0), .long (-1 : Int64)]) (rest := []) hx hb hml hown hts hK hW hS (c_J_fillX16 l G b (-1 : Int64) z16 z17 ez17) f_J_fill1 t_218 ⟨rfl, rfl⟩ ⟨Nat.le_of_ble_eq_true rfl, Nat.le_of_ble_eq_true rfl⟩ rfl hl.1 rfl (Nat.le_of_ble_eq_true rfl) d_X_clear_91 (fun H locs hW hS => ?_)
      exact q_vret hx hb hr hlk hK hW hS h d_X_clear_94
set_option maxHeartbeats 4000000 in
set_option maxRecDepth 100000 in
theorem c_A_set (l : Launch) (G : GG) (b : Nat) (x1 : Int32) (x2 : Int32) (x3 : Int32) (z : Mem) (z0 : Mem) (h : dn_A_set x1 x2 x3 z = some z0) : MtW l y_A_set b_A_set 4 none rm_A_set LX G b [.ref (ad LX b 12 0), .int x1, .int x2, .int x3] z (QV LX G b z0) := by
  refine mtW_of (by decide) (Nat.le_of_ble_eq_true rfl) ?_
  intro p e s m args below meth c ls H locs C hW hS hl
  obtain ⟨hx, hb, hml, hr, hown, hts, hlk, hK⟩ := C
  have hl : lv_has ls 4 [(0, .ref (ad LX b 12 0)), (1, .int x1), (2, .int x2), (3, .int x3)] := hl
  unfold dn_A_set at h
  refine lv_aload_n hx hb d_A_set_0 rfl (lv_at hl 0 rfl) ?_
  refine q_get (L := LX) (kc := 12) (ki := 0) (C := "DeficitNet$Agenda") (T := T_A) (N := 4) (ci := 1) (v := .ref (ad LX b 13 0)) hx hb hts in_A hown hK hW okX12 rfl rfl 0 (by decide) t_190 rfl d_A_set_1 ?_
  refine lv_iload_n hx hb d_A_set_4 rfl (lv_at hl 1 rfl) ?_
  refine lv_iload_n hx hb d_A_set_5 rfl (lv_at hl 2 rfl) ?_
  obtain ⟨j1, ej1, h⟩ := bnd h
  refine q_iast (L := LX) (kc := 13) (ki := 0) hx hb hK hW hS okX13 (fun _ => rfl) ej1 d_A_set_6 (fun H locs z2 ez2 hW hS => ?_)
  have h := stM_n h ez2
  refine lv_aload_n hx hb d_A_set_7 rfl (lv_at hl 0 rfl) ?_
  refine q_get (L := LX) (kc := 12) (ki := 0) (C := "DeficitNet$Agenda") (T := T_A) (N := 4) (ci := 1) (v := .ref (ad LX b 14 0)) hx hb hts in_A hown hK hW okX12 rfl rfl 1 (by decide) t_192 rfl d_A_set_8 ?_
  refine lv_iload_n hx hb d_A_set_11 rfl (lv_at hl 1 rfl) ?_
  refine lv_iload_n hx hb d_A_set_12 rfl (lv_at hl 3 rfl) ?_
  obtain ⟨j3, ej3, h⟩ := bnd h
  refine q_iast (L := LX) (kc := 14) (ki := 0) hx hb hK hW hS okX14 (fun _ => rfl) ej3 d_A_set_13 (fun H locs z4 ez4 hW hS => ?_)
  have h := stM_n h ez4
  refine lv_aload_n hx hb d_A_set_14 rfl (lv_at hl 0 rfl) ?_
  refine q_get (L := LX) (kc := 12) (ki := 0) (C := "DeficitNet$Agenda") (T := T_A) (N := 4) (ci := 1) (v := .ref (ad LX b 15 0)) hx hb hts in_A hown hK hW okX12 rfl rfl 2 (by decide) t_194 rfl d_A_set_15 ?_
  refine lv_iload_n hx hb d_A_set_18 rfl (lv_at hl 1 rfl) ?_
  refine lv_aload_n hx hb d_A_set_19 rfl (lv_at hl 0 rfl) ?_
  refine q_get (L := LX) (kc := 12) (ki := 0) (C := "DeficitNet$Agenda") (T := T_A) (N := 4) (ci := 1) (v := .int (z4.1 12 0 3)) hx hb hts in_A hown hK hW okX12 rfl rfl 3 (by decide) t_195 rfl d_A_set_20 ?_
  obtain ⟨j5, ej5, h⟩ := bnd h
  refine q_iast (L := LX) (kc := 15) (ki := 0) hx hb hK hW hS okX15 (fun _ => rfl) ej5 d_A_set_23 (fun H locs z6 ez6 hW hS => ?_)
  have h := stM_n h ez6
  refine lv_aload_n hx hb d_A_set_24 rfl (lv_at hl 0 rfl) ?_
  refine lv_dup hx hb d_A_set_25 rfl ?_
  refine q_get (L := LX) (kc := 12) (ki := 0) (C := "DeficitNet$Agenda") (T := T_A) (N := 4) (ci := 1) (v := .int (z6.1 12 0 3)) hx hb hts in_A hown hK hW okX12 rfl rfl 3 (by decide) t_195 rfl d_A_set_26 ?_
  refine lv_iconst (v := (1 : Int32)) hx hb d_A_set_29 (by decide) ?_
  refine lv_iadd hx hb d_A_set_30 ?_
  refine q_put (L := LX) (kc := 12) (ki := 0) (C := "DeficitNet$Agenda") (T := T_A) (N := 4) (ci := 1) hx hb hts in_A ty_A tyok_A nm_A hown hK hW hS okX12 rfl rfl 3 (by decide) t_195 rfl rfl rfl (Nat.le_of_ble_eq_true rfl) rfl d_A_set_31 (fun H locs z7 ez7 hW hS => ?_)
  have h := stM_n h ez7
  exact q_vret hx hb hr hlk hK hW hS h d_A_set_34
set_option maxHeartbeats 4000000 in
set_option maxRecDepth 100000 in
theorem w_X_begin_15 {p : Program} {l : Launch} {e : Env} {s : State} {m : MethodId} {args : Array Value} {below : List Frame} {meth : Method} {c : Code} {G : GG} {b : Nat} {z0 : Mem} (C : Cx y_X_begin b_X_begin 2 none p s m args meth c G) {k47 : Mem → Option Mem} 
    (hk47 : ∀  (z : Mem) (ls : Array Slot) (H : Heap) (locs : List Loc), Wd LX G b z H → va_S (rgL LX b) s.heap H locs → lv_has ls 2 [] → k47  z = some z0 → W p l e rm_X_begin s m args below meth c H locs 0 0 (MQ below (QV LX G b z0) args s 0 0 (rgL LX b)) (F0 m 47 ls [])) :
    ∀ (n : Nat) (x1 : Int32) (z : Mem) (ls : Array Slot) (H : Heap) (locs : List Loc), Wd LX G b z H → va_S (rgL LX b) s.heap H locs → lv_has ls 2 [(0, .ref (ad LX b 0 0)), (1, .int x1)] → dn_X_begin_15 k47 n x1 z = some z0 → W p l e rm_X_begin s m args below meth c H locs 0 0 (MQ below (QV LX G b z0) args s 0 0 (rgL LX b)) (F0 m 15 ls []) := by
  obtain ⟨hx, hb, hml, hr, hown, hts, hlk, hK⟩ := C
  intro n
  induction n with
  | zero =>
    intro x1 z ls H locs  hW hS hl h
    cases h
  | succ n ih =>
    intro x1 z ls H locs  hW hS hl h
    rw [dn_X_begin_15] at h
    refine lv_iload_n hx hb d_X_begin_15 rfl (lv_at hl 1 rfl) ?_
    refine lv_aload_n hx hb d_X_begin_16 rfl (lv_at hl 0 rfl) ?_
    refine q_get (L := LX) (kc := 0) (ki := 0) (C := "DeficitNet") (T := T_X) (N := 10) (ci := 0) (v := .int (z.1 0 0 7)) hx hb hts in_X hown hK hW okX0 rfl rfl 7 (by decide) t_228 rfl d_X_begin_17 ?_
    refine lv_icmp_ge (tgt := 47) hx hb d_X_begin_20 (by decide) (fun hc => ?_) (fun hc => ?_)
    · have h := ite_t h hc
      exact hk47  z ls H locs  hW hS (lv_sub hl [] rfl) h
    · have h := ite_f h hc
      refine lv_aload_n hx hb d_X_begin_23 rfl (lv_at hl 0 rfl) ?_
      refine q_get (L := LX) (kc := 0) (ki := 0) (C := "DeficitNet") (T := T_X) (N := 10) (ci := 0) (v := .ref (ad LX b 12 0)) hx hb hts in_X hown hK hW okX0 rfl rfl 4 (by decide) t_225 rfl d_X_begin_24 ?_
      refine lv_iload_n hx hb d_X_begin_27 rfl (lv_at hl 1 rfl) ?_
      refine lv_iconst (v := (1 : Int32)) hx hb d_X_begin_28 (by decide) ?_
      refine lv_aload_n hx hb d_X_begin_29 rfl (lv_at hl 0 rfl) ?_
      refine q_get (L := LX) (kc := 0) (ki := 0) (C := "DeficitNet") (T := T_X) (N := 10) (ci := 0) (v := .ref (ad LX b 8 0)) hx hb hts in_X hown hK hW okX0 rfl rfl 2 (by decide) t_223 rfl d_X_begin_30 ?_
      refine lv_iload_n hx hb d_X_begin_33 rfl (lv_at hl 1 rfl) ?_
      obtain ⟨j3, ej3, h⟩ := bnd h
      refine q_aald (t0 := 5) (ty := (.object "DeficitNet$Flow")) (kd := 9) (L := LX) (kc := 8) (ki := 0) hx hb hK hW okX8 rfl rfl rfl ej3 d_X_begin_34 ?_
      refine q_get (L := LX) (kc := 9) (ki := j3) (C := "DeficitNet$Flow") (T := T_F) (N := 14) (ci := 2) (v := .int (z.1 9 j3 6)) hx hb hts in_F hown hK hW (okX9 (aix_lt ej3)) rfl rfl 6 (by decide) t_105 rfl d_X_begin_35 ?_
      obtain ⟨z4, ez4, h⟩ := bnd h
      refine q_callVv (C := "DeficitNet$Agenda") (As := [.int x1, .int (1 : Int32), .int (z.1 9 j3 6)]) (rest := []) hx hb hml hown hts hK hW hS (c_A_set l G b x1 (1 : Int32) (z.1 9 j3 6) z z4 ez4) f_A_set t_305 ⟨rfl, rfl⟩ ⟨Nat.le_of_ble_eq_true rfl, Nat.le_of_ble_eq_true rfl⟩ (q_recv (L := LX) (kc := 12) (ki := 0) hK hW okX12 rfl rfl) rfl hl.1 rfl (Nat.le_of_ble_eq_true rfl) d_X_begin_38 (fun H locs hW hS => ?_)
      refine lv_iinc (k := 1) (v := (x1 + (1 : Int32))) hx hb d_X_begin_41 hl rfl rfl (by decide) rfl (fun ls hl => ?_)
      have hl : lv_has ls 2 [(1, .int (x1 + (1 : Int32))), (0, .ref (ad LX b 0 0))] := hl
      refine lv_goto (tgt := 15) hx hb d_X_begin_44 (by decide) ?_
      exact ih (x1 + (1 : Int32)) z4 ls H locs  hW hS (lv_sub hl [1, 0] rfl) h
set_option maxHeartbeats 4000000 in
set_option maxRecDepth 100000 in
theorem c_X_begin (l : Launch) (G : GG) (b : Nat) (z : Mem) (z0 : Mem) (h : dn_X_begin z = some z0) : MtW l y_X_begin b_X_begin 2 none rm_X_begin LX G b [.ref (ad LX b 0 0)] z (QV LX G b z0) := by
  refine mtW_of (by decide) (Nat.le_of_ble_eq_true rfl) ?_
  intro p e s m args below meth c ls H locs C hW hS hl
  obtain ⟨hx, hb, hml, hr, hown, hts, hlk, hK⟩ := C
  have hl : lv_has ls 2 [(0, .ref (ad LX b 0 0))] := hl
  unfold dn_X_begin at h
  refine lv_aload_n hx hb d_X_begin_0 rfl (lv_at hl 0 rfl) ?_
  refine q_get (L := LX) (kc := 0) (ki := 0) (C := "DeficitNet") (T := T_X) (N := 10) (ci := 0) (v := .int (z.1 0 0 9)) hx hb hts in_X hown hK hW okX0 rfl rfl 9 (by decide) t_230 rfl d_X_begin_1 ?_
  refine lv_if_eq (tgt := 8) hx hb d_X_begin_4 (by decide) (fun hc => ?_) (fun hc => ?_)
  · have h := ite_t h hc
    refine lv_aload_n hx hb d_X_begin_8 rfl (lv_at hl 0 rfl) ?_
    refine lv_iconst (v := (1 : Int32)) hx hb d_X_begin_9 (by decide) ?_
    obtain ⟨_, u1, h⟩ := bnd h
    refine q_put (L := LX) (kc := 0) (ki := 0) (C := "DeficitNet") (T := T_X) (N := 10) (ci := 0) hx hb hts in_X ty_X tyok_X nm_X hown hK hW hS okX0 rfl rfl 9 (by decide) t_230 rfl (bz_nar (bz_some u1)) (bz_fit (bz_some u1)) (Nat.le_of_ble_eq_true rfl) rfl d_X_begin_10 (fun H locs z2 ez2 hW hS => ?_)
    have h := stM_n h ez2
    refine lv_iconst (v := (0 : Int32)) hx hb d_X_begin_13 (by decide) ?_
    refine lv_istore_n hx hb d_X_begin_14 rfl hl (by decide) rfl (fun ls hl => ?_)
    have hl : lv_has ls 2 [(1, .int (0 : Int32)), (0, .ref (ad LX b 0 0))] := hl
    refine w_X_begin_15 ⟨hx, hb, hml, hr, hown, hts, hlk, hK⟩ (fun z5 ls H locs  hW hS hl h => ?_) FU (0 : Int32) z2 ls H locs  hW hS (lv_sub hl [1, 0] rfl) h
    · exact q_vret hx hb hr hlk hK hW hS h d_X_begin_47
  · have h := ite_f h hc
    exact q_vret hx hb hr hlk hK hW hS h d_X_begin_7
set_option maxHeartbeats 4000000 in
set_option maxRecDepth 100000 in
theorem c_A_isBefore (l : Launch) (G : GG) (b : Nat) (x1 : Int32) (x2 : Int32) (z : Mem) (r0 : Int32) (z0 : Mem) (h : dn_A_isBefore x1 x2 z = some (r0, z0)) : MtW l y_A_isBefore b_A_isBefore 3 (some .boolean) rm_A_isBefore LX G b [.ref (ad LX b 12 0), .int x1, .int x2] z (QI LX G b r0 z0) := by
  refine mtW_of (by decide) (Nat.le_of_ble_eq_true rfl) ?_
  intro p e s m args below meth c ls H locs C hW hS hl
  obtain ⟨hx, hb, hml, hr, hown, hts, hlk, hK⟩ := C
  have hl : lv_has ls 3 [(0, .ref (ad LX b 12 0)), (1, .int x1), (2, .int x2)] := hl
  unfold dn_A_isBefore at h
  refine lv_aload_n hx hb d_A_isBefore_0 rfl (lv_at hl 0 rfl) ?_
  refine q_get (L := LX) (kc := 12) (ki := 0) (C := "DeficitNet$Agenda") (T := T_A) (N := 4) (ci := 1) (v := .ref (ad LX b 14 0)) hx hb hts in_A hown hK hW okX12 rfl rfl 1 (by decide) t_192 rfl d_A_isBefore_1 ?_
  refine lv_iload_n hx hb d_A_isBefore_4 rfl (lv_at hl 1 rfl) ?_
  obtain ⟨j1, ej1, h⟩ := bnd h
  refine q_iald (L := LX) (kc := 14) (ki := 0) hx hb hK hW okX14 rfl ej1 d_A_isBefore_5 ?_
  refine lv_aload_n hx hb d_A_isBefore_6 rfl (lv_at hl 0 rfl) ?_
  refine q_get (L := LX) (kc := 12) (ki := 0) (C := "DeficitNet$Agenda") (T := T_A) (N := 4) (ci := 1) (v := .ref (ad LX b 14 0)) hx hb hts in_A hown hK hW okX12 rfl rfl 1 (by decide) t_192 rfl d_A_isBefore_7 ?_
  refine lv_iload_n hx hb d_A_isBefore_10 rfl (lv_at hl 2 rfl) ?_
  obtain ⟨j2, ej2, h⟩ := bnd h
  refine q_iald (L := LX) (kc := 14) (ki := 0) hx hb hK hW okX14 rfl ej2 d_A_isBefore_11 ?_
  refine lv_icmp_lt (tgt := 45) hx hb d_A_isBefore_12 (by decide) (fun hc => ?_) (fun hc => ?_)
  · have h := ite_t h hc
    refine lv_iconst (v := (1 : Int32)) hx hb d_A_isBefore_45 (by decide) ?_
    refine lv_goto (tgt := 50) hx hb d_A_isBefore_46 (by decide) ?_
    obtain ⟨_, u3, h⟩ := bnd h
    exact q_zret hx hb hr hlk hK hW hS (bz_some u3) h d_A_isBefore_50
  · have h := ite_f h hc
    refine lv_aload_n hx hb d_A_isBefore_15 rfl (lv_at hl 0 rfl) ?_
    refine q_get (L := LX) (kc := 12) (ki := 0) (C := "DeficitNet$Agenda") (T := T_A) (N := 4) (ci := 1) (v := .ref (ad LX b 14 0)) hx hb hts in_A hown hK hW okX12 rfl rfl 1 (by decide) t_192 rfl d_A_isBefore_16 ?_
    refine lv_iload_n hx hb d_A_isBefore_19 rfl (lv_at hl 1 rfl) ?_
    obtain ⟨j4, ej4, h⟩ := bnd h
    refine q_iald (L := LX) (kc := 14) (ki := 0) hx hb hK hW okX14 rfl ej4 d_A_isBefore_20 ?_
    refine lv_aload_n hx hb d_A_isBefore_21 rfl (lv_at hl 0 rfl) ?_
    refine q_get (L := LX) (kc := 12) (ki := 0) (C := "DeficitNet$Agenda") (T := T_A) (N := 4) (ci := 1) (v := .ref (ad LX b 14 0)) hx hb hts in_A hown hK hW okX12 rfl rfl 1 (by decide) t_192 rfl d_A_isBefore_22 ?_
    refine lv_iload_n hx hb d_A_isBefore_25 rfl (lv_at hl 2 rfl) ?_
    obtain ⟨j5, ej5, h⟩ := bnd h
    refine q_iald (L := LX) (kc := 14) (ki := 0) hx hb hK hW okX14 rfl ej5 d_A_isBefore_26 ?_
    refine lv_icmp_ne (tgt := 49) hx hb d_A_isBefore_27 (by decide) (fun hc => ?_) (fun hc => ?_)
    · have h := ite_f h hc
      refine lv_iconst (v := (0 : Int32)) hx hb d_A_isBefore_49 (by decide) ?_
      obtain ⟨_, u6, h⟩ := bnd h
      exact q_zret hx hb hr hlk hK hW hS (bz_some u6) h d_A_isBefore_50
    · have h := ite_t h hc
      refine lv_aload_n hx hb d_A_isBefore_30 rfl (lv_at hl 0 rfl) ?_
      refine q_get (L := LX) (kc := 12) (ki := 0) (C := "DeficitNet$Agenda") (T := T_A) (N := 4) (ci := 1) (v := .ref (ad LX b 15 0)) hx hb hts in_A hown hK hW okX12 rfl rfl 2 (by decide) t_194 rfl d_A_isBefore_31 ?_
      refine lv_iload_n hx hb d_A_isBefore_34 rfl (lv_at hl 1 rfl) ?_
      obtain ⟨j7, ej7, h⟩ := bnd h
      refine q_iald (L := LX) (kc := 15) (ki := 0) hx hb hK hW okX15 rfl ej7 d_A_isBefore_35 ?_
      refine lv_aload_n hx hb d_A_isBefore_36 rfl (lv_at hl 0 rfl) ?_
      refine q_get (L := LX) (kc := 12) (ki := 0) (C := "DeficitNet$Agenda") (T := T_A) (N := 4) (ci := 1) (v := .ref (ad LX b 15 0)) hx hb hts in_A hown hK hW okX12 rfl rfl 2 (by decide) t_194 rfl d_A_isBefore_37 ?_
      refine lv_iload_n hx hb d_A_isBefore_40 rfl (lv_at hl 2 rfl) ?_
      obtain ⟨j8, ej8, h⟩ := bnd h
      refine q_iald (L := LX) (kc := 15) (ki := 0) hx hb hK hW okX15 rfl ej8 d_A_isBefore_41 ?_
      refine lv_icmp_ge (tgt := 49) hx hb d_A_isBefore_42 (by decide) (fun hc => ?_) (fun hc => ?_)
      · have h := ite_t h hc
        refine lv_iconst (v := (0 : Int32)) hx hb d_A_isBefore_49 (by decide) ?_
        obtain ⟨_, u9, h⟩ := bnd h
        exact q_zret hx hb hr hlk hK hW hS (bz_some u9) h d_A_isBefore_50
      · have h := ite_f h hc
        refine lv_iconst (v := (1 : Int32)) hx hb d_A_isBefore_45 (by decide) ?_
        refine lv_goto (tgt := 50) hx hb d_A_isBefore_46 (by decide) ?_
        obtain ⟨_, u10, h⟩ := bnd h
        exact q_zret hx hb hr hlk hK hW hS (bz_some u10) h d_A_isBefore_50
set_option maxHeartbeats 4000000 in
set_option maxRecDepth 100000 in
theorem w_A_firstSlot_4 {p : Program} {l : Launch} {e : Env} {s : State} {m : MethodId} {args : Array Value} {below : List Frame} {meth : Method} {c : Code} {G : GG} {b : Nat} {r0 : Int32} {z0 : Mem} (C : Cx y_A_firstSlot b_A_firstSlot 3 (some .int) p s m args meth c G) {k41 : Int32 → Mem → Option (Int32 × Mem)} 
    (hk41 : ∀ (x1 : Int32) (z : Mem) (ls : Array Slot) (H : Heap) (locs : List Loc), Wd LX G b z H → va_S (rgL LX b) s.heap H locs → lv_has ls 3 [(1, .int x1)] → k41 x1 z = some (r0, z0) → W p l e rm_A_firstSlot s m args below meth c H locs 0 0 (MQ below (QI LX G b r0 z0) args s 0 0 (rgL LX b)) (F0 m 41 ls [])) :
    ∀ (n : Nat) (x1 : Int32) (x2 : Int32) (z : Mem) (ls : Array Slot) (H : Heap) (locs : List Loc), Wd LX G b z H → va_S (rgL LX b) s.heap H locs → lv_has ls 3 [(0, .ref (ad LX b 12 0)), (1, .int x1), (2, .int x2)] → dn_A_firstSlot_4 k41 n x1 x2 z = some (r0, z0) → W p l e rm_A_firstSlot s m args below meth c H locs 0 0 (MQ below (QI LX G b r0 z0) args s 0 0 (rgL LX b)) (F0 m 4 ls []) := by
  obtain ⟨hx, hb, hml, hr, hown, hts, hlk, hK⟩ := C
  intro n
  induction n with
  | zero =>
    intro x1 x2 z ls H locs  hW hS hl h
    cases h
  | succ n ih =>
    intro x1 x2 z ls H locs  hW hS hl h
    rw [dn_A_firstSlot_4] at h
    refine lv_iload_n hx hb d_A_firstSlot_4 rfl (lv_at hl 2 rfl) ?_
    refine lv_bipush (v := (70 : Int32)) hx hb d_A_firstSlot_5 (by decide) ?_
    refine lv_icmp_ge (tgt := 41) hx hb d_A_firstSlot_7 (by decide) (fun hc => ?_) (fun hc => ?_)
    · have h := ite_t h hc
      exact hk41 x1 z ls H locs  hW hS (lv_sub hl [1] rfl) h
    · have h := ite_f h hc
      refine lv_aload_n hx hb d_A_firstSlot_10 rfl (lv_at hl 0 rfl) ?_
      refine q_get (L := LX) (kc := 12) (ki := 0) (C := "DeficitNet$Agenda") (T := T_A) (N := 4) (ci := 1) (v := .ref (ad LX b 13 0)) hx hb hts in_A hown hK hW okX12 rfl rfl 0 (by decide) t_190 rfl d_A_firstSlot_11 ?_
      refine lv_iload_n hx hb d_A_firstSlot_14 rfl (lv_at hl 2 rfl) ?_
      obtain ⟨j1, ej1, h⟩ := bnd h
      refine q_iald (L := LX) (kc := 13) (ki := 0) hx hb hK hW okX13 rfl ej1 d_A_firstSlot_15 ?_
      refine lv_if_eq (tgt := 35) hx hb d_A_firstSlot_16 (by decide) (fun hc => ?_) (fun hc => ?_)
      · have h := ite_t h hc
        refine lv_iinc (k := 2) (v := (x2 + (1 : Int32))) hx hb d_A_firstSlot_35 hl rfl rfl (by decide) rfl (fun ls hl => ?_)
        have hl : lv_has ls 3 [(2, .int (x2 + (1 : Int32))), (0, .ref (ad LX b 12 0)), (1, .int x1)] := hl
        refine lv_goto (tgt := 4) hx hb d_A_firstSlot_38 (by decide) ?_
        exact ih x1 (x2 + (1 : Int32)) z ls H locs  hW hS (lv_sub hl [1, 2, 0] rfl) h
      · have h := ite_f h hc
        refine lv_iload_n hx hb d_A_firstSlot_19 rfl (lv_at hl 1 rfl) ?_
        refine lv_iconst (v := (-1 : Int32)) hx hb d_A_firstSlot_20 (by decide) ?_
        refine lv_icmp_eq (tgt := 33) hx hb d_A_firstSlot_21 (by decide) (fun hc => ?_) (fun hc => ?_)
        · have h := ite_t h hc
          refine lv_iload_n hx hb d_A_firstSlot_33 rfl (lv_at hl 2 rfl) ?_
          refine lv_istore_n hx hb d_A_firstSlot_34 rfl hl (by decide) rfl (fun ls hl => ?_)
          have hl : lv_has ls 3 [(1, .int x2), (0, .ref (ad LX b 12 0)), (2, .int x2)] := hl
          refine lv_iinc (k := 2) (v := (x2 + (1 : Int32))) hx hb d_A_firstSlot_35 hl rfl rfl (by decide) rfl (fun ls hl => ?_)
          have hl : lv_has ls 3 [(2, .int (x2 + (1 : Int32))), (1, .int x2), (0, .ref (ad LX b 12 0))] := hl
          refine lv_goto (tgt := 4) hx hb d_A_firstSlot_38 (by decide) ?_
          exact ih x2 (x2 + (1 : Int32)) z ls H locs  hW hS (lv_sub hl [2, 1, 0] rfl) h
        · have h := ite_f h hc
          refine lv_aload_n hx hb d_A_firstSlot_24 rfl (lv_at hl 0 rfl) ?_
          refine lv_iload_n hx hb d_A_firstSlot_25 rfl (lv_at hl 2 rfl) ?_
          refine lv_iload_n hx hb d_A_firstSlot_26 rfl (lv_at hl 1 rfl) ?_
          obtain ⟨⟨v2, z2⟩, er2, h⟩ := bnd h
          refine q_callVi (C := "DeficitNet$Agenda") (As := [.int x2, .int x1]) (rest := []) hx hb hml hown hts hK hW hS (c_A_isBefore l G b x2 x1 z v2 z2 er2) f_A_isBefore t_317 ⟨rfl, rfl⟩ ⟨Nat.le_of_ble_eq_true rfl, Nat.le_of_ble_eq_true rfl⟩ (q_recv (L := LX) (kc := 12) (ki := 0) hK hW okX12 rfl rfl) rfl hl.1 rfl (Nat.le_of_ble_eq_true rfl) d_A_firstSlot_27 (fun H locs hW hS => ?_)
          refine lv_if_eq (tgt := 35) hx hb d_A_firstSlot_30 (by decide) (fun hc => ?_) (fun hc => ?_)
          · have h := ite_t h hc
            refine lv_iinc (k := 2) (v := (x2 + (1 : Int32))) hx hb d_A_firstSlot_35 hl rfl rfl (by decide) rfl (fun ls hl => ?_)
            have hl : lv_has ls 3 [(2, .int (x2 + (1 : Int32))), (0, .ref (ad LX b 12 0)), (1, .int x1)] := hl
            refine lv_goto (tgt := 4) hx hb d_A_firstSlot_38 (by decide) ?_
            exact ih x1 (x2 + (1 : Int32)) z2 ls H locs  hW hS (lv_sub hl [1, 2, 0] rfl) h
          · have h := ite_f h hc
            refine lv_iload_n hx hb d_A_firstSlot_33 rfl (lv_at hl 2 rfl) ?_
            refine lv_istore_n hx hb d_A_firstSlot_34 rfl hl (by decide) rfl (fun ls hl => ?_)
            have hl : lv_has ls 3 [(1, .int x2), (0, .ref (ad LX b 12 0)), (2, .int x2)] := hl
            refine lv_iinc (k := 2) (v := (x2 + (1 : Int32))) hx hb d_A_firstSlot_35 hl rfl rfl (by decide) rfl (fun ls hl => ?_)
            have hl : lv_has ls 3 [(2, .int (x2 + (1 : Int32))), (1, .int x2), (0, .ref (ad LX b 12 0))] := hl
            refine lv_goto (tgt := 4) hx hb d_A_firstSlot_38 (by decide) ?_
            exact ih x2 (x2 + (1 : Int32)) z2 ls H locs  hW hS (lv_sub hl [2, 1, 0] rfl) h
set_option maxHeartbeats 4000000 in
set_option maxRecDepth 100000 in
theorem c_A_firstSlot (l : Launch) (G : GG) (b : Nat) (z : Mem) (r0 : Int32) (z0 : Mem) (h : dn_A_firstSlot z = some (r0, z0)) : MtW l y_A_firstSlot b_A_firstSlot 3 (some .int) rm_A_firstSlot LX G b [.ref (ad LX b 12 0)] z (QI LX G b r0 z0) := by
  refine mtW_of (by decide) (Nat.le_of_ble_eq_true rfl) ?_
  intro p e s m args below meth c ls H locs C hW hS hl
  obtain ⟨hx, hb, hml, hr, hown, hts, hlk, hK⟩ := C
  have hl : lv_has ls 3 [(0, .ref (ad LX b 12 0))] := hl
  unfold dn_A_firstSlot at h
  refine lv_iconst (v := (-1 : Int32)) hx hb d_A_firstSlot_0 (by decide) ?_
  refine lv_istore_n hx hb d_A_firstSlot_1 rfl hl (by decide) rfl (fun ls hl => ?_)
  have hl : lv_has ls 3 [(1, .int (-1 : Int32)), (0, .ref (ad LX b 12 0))] := hl
  refine lv_iconst (v := (0 : Int32)) hx hb d_A_firstSlot_2 (by decide) ?_
  refine lv_istore_n hx hb d_A_firstSlot_3 rfl hl (by decide) rfl (fun ls hl => ?_)
  have hl : lv_has ls 3 [(2, .int (0 : Int32)), (1, .int (-1 : Int32)), (0, .ref (ad LX b 12 0))] := hl
  refine w_A_firstSlot_4 ⟨hx, hb, hml, hr, hown, hts, hlk, hK⟩ (fun x1 z3 ls H locs  hW hS hl h => ?_) FU (-1 : Int32) (0 : Int32) z ls H locs  hW hS (lv_sub hl [2, 1, 0] rfl) h
  · refine lv_iload_n hx hb d_A_firstSlot_41 rfl (lv_at hl 0 rfl) ?_
    exact q_iret hx hb hr hlk hK hW hS h d_A_firstSlot_42
set_option maxHeartbeats 4000000 in
set_option maxRecDepth 100000 in
theorem c_A_unset (l : Launch) (G : GG) (b : Nat) (x1 : Int32) (z : Mem) (z0 : Mem) (h : dn_A_unset x1 z = some z0) : MtW l y_A_unset b_A_unset 2 none rm_A_unset LX G b [.ref (ad LX b 12 0), .int x1] z (QV LX G b z0) := by
  refine mtW_of (by decide) (Nat.le_of_ble_eq_true rfl) ?_
  intro p e s m args below meth c ls H locs C hW hS hl
  obtain ⟨hx, hb, hml, hr, hown, hts, hlk, hK⟩ := C
  have hl : lv_has ls 2 [(0, .ref (ad LX b 12 0)), (1, .int x1)] := hl
  unfold dn_A_unset at h
  refine lv_aload_n hx hb d_A_unset_0 rfl (lv_at hl 0 rfl) ?_
  refine q_get (L := LX) (kc := 12) (ki := 0) (C := "DeficitNet$Agenda") (T := T_A) (N := 4) (ci := 1) (v := .ref (ad LX b 13 0)) hx hb hts in_A hown hK hW okX12 rfl rfl 0 (by decide) t_190 rfl d_A_unset_1 ?_
  refine lv_iload_n hx hb d_A_unset_4 rfl (lv_at hl 1 rfl) ?_
  refine lv_iconst (v := (0 : Int32)) hx hb d_A_unset_5 (by decide) ?_
  obtain ⟨j1, ej1, h⟩ := bnd h
  refine q_iast (L := LX) (kc := 13) (ki := 0) hx hb hK hW hS okX13 (fun _ => rfl) ej1 d_A_unset_6 (fun H locs z2 ez2 hW hS => ?_)
  have h := stM_n h ez2
  exact q_vret hx hb hr hlk hK hW hS h d_A_unset_7
set_option maxHeartbeats 4000000 in
set_option maxRecDepth 100000 in
theorem c_X_remember (l : Launch) (G : GG) (b : Nat) (x1 : Int32) (x2 : Int32) (x3 : Int32) (z : Mem) (z0 : Mem) (h : dn_X_remember x1 x2 x3 z = some z0) : MtW l y_X_remember b_X_remember 4 none rm_X_remember LX G b [.ref (ad LX b 0 0), .int x1, .int x2, .int x3] z (QV LX G b z0) := by
  refine mtW_of (by decide) (Nat.le_of_ble_eq_true rfl) ?_
  intro p e s m args below meth c ls H locs C hW hS hl
  obtain ⟨hx, hb, hml, hr, hown, hts, hlk, hK⟩ := C
  have hl : lv_has ls 4 [(0, .ref (ad LX b 0 0)), (1, .int x1), (2, .int x2), (3, .int x3)] := hl
  unfold dn_X_remember at h
  refine lv_aload_n hx hb d_X_remember_0 rfl (lv_at hl 0 rfl) ?_
  refine q_get (L := LX) (kc := 0) (ki := 0) (C := "DeficitNet") (T := T_X) (N := 10) (ci := 0) (v := .ref (ad LX b 16 0)) hx hb hts in_X hown hK hW okX0 rfl rfl 5 (by decide) t_226 rfl d_X_remember_1 ?_
  refine lv_iconst (v := (0 : Int32)) hx hb d_X_remember_4 (by decide) ?_
  refine lv_aload_n hx hb d_X_remember_5 rfl (lv_at hl 0 rfl) ?_
  refine q_get (L := LX) (kc := 0) (ki := 0) (C := "DeficitNet") (T := T_X) (N := 10) (ci := 0) (v := .ref (ad LX b 16 0)) hx hb hts in_X hown hK hW okX0 rfl rfl 5 (by decide) t_226 rfl d_X_remember_6 ?_
  refine lv_iconst (v := (1 : Int32)) hx hb d_X_remember_9 (by decide) ?_
  refine lv_bipush (v := (15 : Int32)) hx hb d_X_remember_10 (by decide) ?_
  obtain ⟨_, u1, h⟩ := bnd h
  refine q_cpl (L := LX) (kl := 16) hx hb (hml.trans hl.1.symm) hts hown t_333 acw hK hW hS lnX (fun _ => rfl) u1 (Nat.le_of_ble_eq_true rfl) (Nat.le_of_ble_eq_true rfl) d_X_remember_12 (fun H locs z2 ez2 hW hS => ?_)
  have h := stM_n h ez2
  refine lv_aload_n hx hb d_X_remember_15 rfl (lv_at hl 0 rfl) ?_
  refine q_get (L := LX) (kc := 0) (ki := 0) (C := "DeficitNet") (T := T_X) (N := 10) (ci := 0) (v := .ref (ad LX b 16 0)) hx hb hts in_X hown hK hW okX0 rfl rfl 5 (by decide) t_226 rfl d_X_remember_16 ?_
  refine lv_iconst (v := (0 : Int32)) hx hb d_X_remember_19 (by decide) ?_
  refine lv_aload_n hx hb d_X_remember_20 rfl (lv_at hl 0 rfl) ?_
  refine q_get (L := LX) (kc := 0) (ki := 0) (C := "DeficitNet") (T := T_X) (N := 10) (ci := 0) (v := .int (z2.1 0 0 8)) hx hb hts in_X hown hK hW okX0 rfl rfl 8 (by decide) t_229 rfl d_X_remember_21 ?_
  refine lv_i2l hx hb d_X_remember_24 rfl ?_
  refine lv_ldc2 (v := (1048576 : Int64)) hx hb hown (hts _ t_336) d_X_remember_25 ?_
  refine lv_lmul hx hb d_X_remember_28 ?_
  refine lv_iload_n hx hb d_X_remember_29 rfl (lv_at hl 1 rfl) ?_
  refine lv_ldcw (v := (65536 : Int32)) hx hb hown (hts _ t_337) d_X_remember_30 ?_
  refine lv_imul hx hb d_X_remember_33 ?_
  refine lv_i2l hx hb d_X_remember_34 rfl ?_
  refine lv_ladd hx hb d_X_remember_35 ?_
  refine lv_iload_n hx hb d_X_remember_36 rfl (lv_at hl 2 rfl) ?_
  refine lv_sipush (v := (256 : Int32)) hx hb d_X_remember_37 (by decide) ?_
  refine lv_imul hx hb d_X_remember_40 ?_
  refine lv_i2l hx hb d_X_remember_41 rfl ?_
  refine lv_ladd hx hb d_X_remember_42 ?_
  refine lv_iload_n hx hb d_X_remember_43 rfl (lv_at hl 3 rfl) ?_
  refine lv_i2l hx hb d_X_remember_44 rfl ?_
  refine lv_ladd hx hb d_X_remember_45 ?_
  obtain ⟨j3, ej3, h⟩ := bnd h
  refine q_last (L := LX) (kl := 16) hx hb hK hW hS lnX (fun _ => rfl) ej3 d_X_remember_46 (fun H locs z4 ez4 hW hS => ?_)
  have h := stM_n h ez4
  exact q_vret hx hb hr hlk hK hW hS h d_X_remember_47
set_option maxHeartbeats 4000000 in
set_option maxRecDepth 100000 in
theorem c_X_hasTimer (l : Launch) (G : GG) (b : Nat) (x1 : Int32) (z : Mem) (r0 : Int32) (z0 : Mem) (h : dn_X_hasTimer x1 z = some (r0, z0)) : MtW l y_X_hasTimer b_X_hasTimer 2 (some .boolean) rm_X_hasTimer LX G b [.ref (ad LX b 0 0), .int x1] z (QI LX G b r0 z0) := by
  refine mtW_of (by decide) (Nat.le_of_ble_eq_true rfl) ?_
  intro p e s m args below meth c ls H locs C hW hS hl
  obtain ⟨hx, hb, hml, hr, hown, hts, hlk, hK⟩ := C
  have hl : lv_has ls 2 [(0, .ref (ad LX b 0 0)), (1, .int x1)] := hl
  unfold dn_X_hasTimer at h
  refine lv_aload_n hx hb d_X_hasTimer_0 rfl (lv_at hl 0 rfl) ?_
  refine q_get (L := LX) (kc := 0) (ki := 0) (C := "DeficitNet") (T := T_X) (N := 10) (ci := 0) (v := .ref (ad LX b 12 0)) hx hb hts in_X hown hK hW okX0 rfl rfl 4 (by decide) t_225 rfl d_X_hasTimer_1 ?_
  refine q_get (L := LX) (kc := 12) (ki := 0) (C := "DeficitNet$Agenda") (T := T_A) (N := 4) (ci := 1) (v := .ref (ad LX b 13 0)) hx hb hts in_A hown hK hW okX12 rfl rfl 0 (by decide) t_191 rfl d_X_hasTimer_4 ?_
  refine lv_iload_n hx hb d_X_hasTimer_7 rfl (lv_at hl 1 rfl) ?_
  obtain ⟨j1, ej1, h⟩ := bnd h
  refine q_iald (L := LX) (kc := 13) (ki := 0) hx hb hK hW okX13 rfl ej1 d_X_hasTimer_8 ?_
  refine lv_iconst (v := (4 : Int32)) hx hb d_X_hasTimer_9 (by decide) ?_
  refine lv_icmp_ne (tgt := 17) hx hb d_X_hasTimer_10 (by decide) (fun hc => ?_) (fun hc => ?_)
  · have h := ite_f h hc
    refine lv_iconst (v := (0 : Int32)) hx hb d_X_hasTimer_17 (by decide) ?_
    obtain ⟨_, u2, h⟩ := bnd h
    exact q_zret hx hb hr hlk hK hW hS (bz_some u2) h d_X_hasTimer_18
  · have h := ite_t h hc
    refine lv_iconst (v := (1 : Int32)) hx hb d_X_hasTimer_13 (by decide) ?_
    refine lv_goto (tgt := 18) hx hb d_X_hasTimer_14 (by decide) ?_
    obtain ⟨_, u3, h⟩ := bnd h
    exact q_zret hx hb hr hlk hK hW hS (bz_some u3) h d_X_hasTimer_18
set_option maxHeartbeats 4000000 in
set_option maxRecDepth 100000 in
theorem c_K_enter (l : Launch) (G : GG) (b : Nat) (x0 : Nat) (x1 : Int32) (x2 : Int32) (x3 : Int32) (x4 : Nat) (z : Mem) (z0 : Mem) (qx0 : x0 < 64) (qx4 : x4 < 6) (h : dn_K_enter x0 x1 x2 x3 x4 z = some z0) : MtW l y_K_enter b_K_enter 5 none rm_K_enter LX G b [.ref (ad LX b 11 x0), .int x1, .int x2, .int x3, .ref (ad LX b 9 x4)] z (QV LX G b z0) := by
  refine mtW_of (by decide) (Nat.le_of_ble_eq_true rfl) ?_
  intro p e s m args below meth c ls H locs C hW hS hl
  obtain ⟨hx, hb, hml, hr, hown, hts, hlk, hK⟩ := C
  have hl : lv_has ls 5 [(0, .ref (ad LX b 11 x0)), (1, .int x1), (2, .int x2), (3, .int x3), (4, .ref (ad LX b 9 x4))] := hl
  unfold dn_K_enter at h
  refine lv_aload_n hx hb d_K_enter_0 rfl (lv_at hl 0 rfl) ?_
  refine lv_iconst (v := (1 : Int32)) hx hb d_K_enter_1 (by decide) ?_
  obtain ⟨_, u1, h⟩ := bnd h
  refine q_put (L := LX) (kc := 11) (ki := x0) (C := "DeficitNet$Packet") (T := T_K) (N := 7) (ci := 3) hx hb hts in_K ty_K tyok_K nm_K hown hK hW hS (okX11 qx0) rfl rfl 0 (by decide) t_156 rfl (bz_nar (bz_some u1)) (bz_fit (bz_some u1)) (Nat.le_of_ble_eq_true rfl) rfl d_K_enter_2 (fun H locs z2 ez2 hW hS => ?_)
  have h := stM_n h ez2
  refine lv_aload_n hx hb d_K_enter_5 rfl (lv_at hl 0 rfl) ?_
  refine lv_iload_n hx hb d_K_enter_6 rfl (lv_at hl 3 rfl) ?_
  obtain ⟨_, u3, h⟩ := bnd h
  refine q_put (L := LX) (kc := 11) (ki := x0) (C := "DeficitNet$Packet") (T := T_K) (N := 7) (ci := 3) hx hb hts in_K ty_K tyok_K nm_K hown hK hW hS (okX11 qx0) rfl rfl 1 (by decide) t_158 rfl (bz_nar (bz_some u3)) (bz_fit (bz_some u3)) (Nat.le_of_ble_eq_true rfl) rfl d_K_enter_7 (fun H locs z4 ez4 hW hS => ?_)
  have h := stM_n h ez4
  refine lv_aload_n hx hb d_K_enter_10 rfl (lv_at hl 0 rfl) ?_
  refine lv_iload_n hx hb d_K_enter_11 rfl (lv_at hl 1 rfl) ?_
  refine q_put (L := LX) (kc := 11) (ki := x0) (C := "DeficitNet$Packet") (T := T_K) (N := 7) (ci := 3) hx hb hts in_K ty_K tyok_K nm_K hown hK hW hS (okX11 qx0) rfl rfl 2 (by decide) t_160 rfl rfl rfl (Nat.le_of_ble_eq_true rfl) rfl d_K_enter_12 (fun H locs z5 ez5 hW hS => ?_)
  have h := stM_n h ez5
  refine lv_aload_n hx hb d_K_enter_15 rfl (lv_at hl 0 rfl) ?_
  refine lv_iload_n hx hb d_K_enter_16 rfl (lv_at hl 2 rfl) ?_
  refine q_put (L := LX) (kc := 11) (ki := x0) (C := "DeficitNet$Packet") (T := T_K) (N := 7) (ci := 3) hx hb hts in_K ty_K tyok_K nm_K hown hK hW hS (okX11 qx0) rfl rfl 3 (by decide) t_162 rfl rfl rfl (Nat.le_of_ble_eq_true rfl) rfl d_K_enter_17 (fun H locs z6 ez6 hW hS => ?_)
  have h := stM_n h ez6
  refine lv_aload_n hx hb d_K_enter_20 rfl (lv_at hl 0 rfl) ?_
  refine lv_iload_n hx hb d_K_enter_21 rfl (lv_at hl 3 rfl) ?_
  refine lv_if_eq (tgt := 29) hx hb d_K_enter_22 (by decide) (fun hc => ?_) (fun hc => ?_)
  · have h := ite_t h hc
    refine lv_aload hx hb d_K_enter_29 (lv_at hl 4 rfl) ?_
    refine q_get (L := LX) (kc := 9) (ki := x4) (C := "DeficitNet$Flow") (T := T_F) (N := 14) (ci := 2) (v := .int (z6.1 9 x4 3)) hx hb hts in_F hown hK hW (okX9 qx4) rfl rfl 3 (by decide) t_99 rfl d_K_enter_31 ?_
    refine q_put (L := LX) (kc := 11) (ki := x0) (C := "DeficitNet$Packet") (T := T_K) (N := 7) (ci := 3) hx hb hts in_K ty_K tyok_K nm_K hown hK hW hS (okX11 qx0) rfl rfl 4 (by decide) t_164 rfl rfl rfl (Nat.le_of_ble_eq_true rfl) rfl d_K_enter_34 (fun H locs z7 ez7 hW hS => ?_)
    have h := stM_n h ez7
    refine lv_aload_n hx hb d_K_enter_37 rfl (lv_at hl 0 rfl) ?_
    refine lv_iload_n hx hb d_K_enter_38 rfl (lv_at hl 3 rfl) ?_
    refine lv_if_eq (tgt := 50) hx hb d_K_enter_39 (by decide) (fun hc => ?_) (fun hc => ?_)
    · have h := ite_t h hc
      refine lv_aload hx hb d_K_enter_50 (lv_at hl 4 rfl) ?_
      refine q_get (L := LX) (kc := 9) (ki := x4) (C := "DeficitNet$Flow") (T := T_F) (N := 14) (ci := 2) (v := .int (z7.1 9 x4 1)) hx hb hts in_F hown hK hW (okX9 qx4) rfl rfl 1 (by decide) t_94 rfl d_K_enter_52 ?_
      refine q_put (L := LX) (kc := 11) (ki := x0) (C := "DeficitNet$Packet") (T := T_K) (N := 7) (ci := 3) hx hb hts in_K ty_K tyok_K nm_K hown hK hW hS (okX11 qx0) rfl rfl 5 (by decide) t_166 rfl rfl rfl (Nat.le_of_ble_eq_true rfl) rfl d_K_enter_55 (fun H locs z8 ez8 hW hS => ?_)
      have h := stM_n h ez8
      exact q_vret hx hb hr hlk hK hW hS h d_K_enter_58
    · have h := ite_f h hc
      refine lv_aload hx hb d_K_enter_42 (lv_at hl 4 rfl) ?_
      refine q_get (L := LX) (kc := 9) (ki := x4) (C := "DeficitNet$Flow") (T := T_F) (N := 14) (ci := 2) (v := .int (z7.1 9 x4 0)) hx hb hts in_F hown hK hW (okX9 qx4) rfl rfl 0 (by decide) t_91 rfl d_K_enter_44 ?_
      refine lv_goto (tgt := 55) hx hb d_K_enter_47 (by decide) ?_
      refine q_put (L := LX) (kc := 11) (ki := x0) (C := "DeficitNet$Packet") (T := T_K) (N := 7) (ci := 3) hx hb hts in_K ty_K tyok_K nm_K hown hK hW hS (okX11 qx0) rfl rfl 5 (by decide) t_166 rfl rfl rfl (Nat.le_of_ble_eq_true rfl) rfl d_K_enter_55 (fun H locs z9 ez9 hW hS => ?_)
      have h := stM_n h ez9
      exact q_vret hx hb hr hlk hK hW hS h d_K_enter_58
  · have h := ite_f h hc
    refine lv_iconst (v := (1 : Int32)) hx hb d_K_enter_25 (by decide) ?_
    refine lv_goto (tgt := 34) hx hb d_K_enter_26 (by decide) ?_
    refine q_put (L := LX) (kc := 11) (ki := x0) (C := "DeficitNet$Packet") (T := T_K) (N := 7) (ci := 3) hx hb hts in_K ty_K tyok_K nm_K hown hK hW hS (okX11 qx0) rfl rfl 4 (by decide) t_164 rfl rfl rfl (Nat.le_of_ble_eq_true rfl) rfl d_K_enter_34 (fun H locs z10 ez10 hW hS => ?_)
    have h := stM_n h ez10
    refine lv_aload_n hx hb d_K_enter_37 rfl (lv_at hl 0 rfl) ?_
    refine lv_iload_n hx hb d_K_enter_38 rfl (lv_at hl 3 rfl) ?_
    refine lv_if_eq (tgt := 50) hx hb d_K_enter_39 (by decide) (fun hc => ?_) (fun hc => ?_)
    · have h := ite_t h hc
      refine lv_aload hx hb d_K_enter_50 (lv_at hl 4 rfl) ?_
      refine q_get (L := LX) (kc := 9) (ki := x4) (C := "DeficitNet$Flow") (T := T_F) (N := 14) (ci := 2) (v := .int (z10.1 9 x4 1)) hx hb hts in_F hown hK hW (okX9 qx4) rfl rfl 1 (by decide) t_94 rfl d_K_enter_52 ?_
      refine q_put (L := LX) (kc := 11) (ki := x0) (C := "DeficitNet$Packet") (T := T_K) (N := 7) (ci := 3) hx hb hts in_K ty_K tyok_K nm_K hown hK hW hS (okX11 qx0) rfl rfl 5 (by decide) t_166 rfl rfl rfl (Nat.le_of_ble_eq_true rfl) rfl d_K_enter_55 (fun H locs z11 ez11 hW hS => ?_)
      have h := stM_n h ez11
      exact q_vret hx hb hr hlk hK hW hS h d_K_enter_58
    · have h := ite_f h hc
      refine lv_aload hx hb d_K_enter_42 (lv_at hl 4 rfl) ?_
      refine q_get (L := LX) (kc := 9) (ki := x4) (C := "DeficitNet$Flow") (T := T_F) (N := 14) (ci := 2) (v := .int (z10.1 9 x4 0)) hx hb hts in_F hown hK hW (okX9 qx4) rfl rfl 0 (by decide) t_91 rfl d_K_enter_44 ?_
      refine lv_goto (tgt := 55) hx hb d_K_enter_47 (by decide) ?_
      refine q_put (L := LX) (kc := 11) (ki := x0) (C := "DeficitNet$Packet") (T := T_K) (N := 7) (ci := 3) hx hb hts in_K ty_K tyok_K nm_K hown hK hW hS (okX11 qx0) rfl rfl 5 (by decide) t_166 rfl rfl rfl (Nat.le_of_ble_eq_true rfl) rfl d_K_enter_55 (fun H locs z12 ez12 hW hS => ?_)
      have h := stM_n h ez12
      exact q_vret hx hb hr hlk hK hW hS h d_K_enter_58
set_option maxHeartbeats 4000000 in
set_option maxRecDepth 100000 in
theorem w_X_make_18 {p : Program} {l : Launch} {e : Env} {s : State} {m : MethodId} {args : Array Value} {below : List Frame} {meth : Method} {c : Code} {G : GG} {b : Nat} {r0 : Int32} {z0 : Mem} (C : Cx y_X_make b_X_make 5 (some .int) p s m args meth c G) {k38 : Int32 → Int32 → Int32 → Int32 → Mem → Option (Int32 × Mem)} {k66 : Int32 → Mem → Option (Int32 × Mem)} 
    (hk38 : ∀ (x1 : Int32) (x2 : Int32) (x3 : Int32) (x4 : Int32) (z : Mem) (ls : Array Slot) (H : Heap) (locs : List Loc), Wd LX G b z H → va_S (rgL LX b) s.heap H locs → lv_has ls 5 [(0, .ref (ad LX b 0 0)), (1, .int x1), (2, .int x2), (3, .int x3), (4, .int x4)] → k38 x1 x2 x3 x4 z = some (r0, z0) → W p l e rm_X_make s m args below meth c H locs 0 0 (MQ below (QI LX G b r0 z0) args s 0 0 (rgL LX b)) (F0 m 38 ls []))
    (hk66 : ∀ (x1 : Int32) (z : Mem) (ls : Array Slot) (H : Heap) (locs : List Loc), Wd LX G b z H → va_S (rgL LX b) s.heap H locs → lv_has ls 5 [(0, .ref (ad LX b 0 0)), (1, .int x1)] → k66 x1 z = some (r0, z0) → W p l e rm_X_make s m args below meth c H locs 0 0 (MQ below (QI LX G b r0 z0) args s 0 0 (rgL LX b)) (F0 m 66 ls [])) :
    ∀ (n : Nat) (x1 : Int32) (x2 : Int32) (x3 : Int32) (x4 : Int32) (z : Mem) (ls : Array Slot) (H : Heap) (locs : List Loc), Wd LX G b z H → va_S (rgL LX b) s.heap H locs → lv_has ls 5 [(0, .ref (ad LX b 0 0)), (1, .int x1), (2, .int x2), (3, .int x3), (4, .int x4)] → dn_X_make_18 k38 k66 n x1 x2 x3 x4 z = some (r0, z0) → W p l e rm_X_make s m args below meth c H locs 0 0 (MQ below (QI LX G b r0 z0) args s 0 0 (rgL LX b)) (F0 m 18 ls []) := by
  obtain ⟨hx, hb, hml, hr, hown, hts, hlk, hK⟩ := C
  intro n
  induction n with
  | zero =>
    intro x1 x2 x3 x4 z ls H locs  hW hS hl h
    cases h
  | succ n ih =>
    intro x1 x2 x3 x4 z ls H locs  hW hS hl h
    rw [dn_X_make_18] at h
    refine lv_iload hx hb d_X_make_18 (lv_at hl 4 rfl) ?_
    refine lv_bipush (v := (64 : Int32)) hx hb d_X_make_20 (by decide) ?_
    refine lv_icmp_ge (tgt := 66) hx hb d_X_make_22 (by decide) (fun hc => ?_) (fun hc => ?_)
    · have h := ite_t h hc
      exact hk66 x1 z ls H locs  hW hS (lv_sub hl [0, 1] rfl) h
    · have h := ite_f h hc
      refine lv_aload_n hx hb d_X_make_25 rfl (lv_at hl 0 rfl) ?_
      refine q_get (L := LX) (kc := 0) (ki := 0) (C := "DeficitNet") (T := T_X) (N := 10) (ci := 0) (v := .ref (ad LX b 10 0)) hx hb hts in_X hown hK hW okX0 rfl rfl 3 (by decide) t_224 rfl d_X_make_26 ?_
      refine lv_iload hx hb d_X_make_29 (lv_at hl 4 rfl) ?_
      obtain ⟨j3, ej3, h⟩ := bnd h
      refine q_aald (t0 := 6) (ty := (.object "DeficitNet$Packet")) (kd := 11) (L := LX) (kc := 10) (ki := 0) hx hb hK hW okX10 rfl rfl rfl ej3 d_X_make_31 ?_
      refine q_get (L := LX) (kc := 11) (ki := j3) (C := "DeficitNet$Packet") (T := T_K) (N := 7) (ci := 3) (v := .int (z.1 11 j3 0)) hx hb hts in_K hown hK hW (okX11 (aix_lt ej3)) rfl rfl 0 (by decide) t_157 rfl d_X_make_32 ?_
      refine lv_if_ne (tgt := 60) hx hb d_X_make_35 (by decide) (fun hc => ?_) (fun hc => ?_)
      · have h := ite_f h hc
        refine lv_iinc (k := 4) (v := (x4 + (1 : Int32))) hx hb d_X_make_60 hl rfl rfl (by decide) rfl (fun ls hl => ?_)
        have hl : lv_has ls 5 [(4, .int (x4 + (1 : Int32))), (0, .ref (ad LX b 0 0)), (1, .int x1), (2, .int x2), (3, .int x3)] := hl
        refine lv_goto (tgt := 18) hx hb d_X_make_63 (by decide) ?_
        exact ih x1 x2 x3 (x4 + (1 : Int32)) z ls H locs  hW hS (lv_sub hl [1, 2, 3, 4, 0] rfl) h
      · have h := ite_t h hc
        exact hk38 x1 x2 x3 x4 z ls H locs  hW hS (lv_sub hl [0, 1, 2, 3, 4] rfl) h
set_option maxHeartbeats 4000000 in
set_option maxRecDepth 100000 in
theorem c_X_make (l : Launch) (G : GG) (b : Nat) (x1 : Int32) (x2 : Int32) (x3 : Int32) (z : Mem) (r0 : Int32) (z0 : Mem) (h : dn_X_make x1 x2 x3 z = some (r0, z0)) : MtW l y_X_make b_X_make 5 (some .int) rm_X_make LX G b [.ref (ad LX b 0 0), .int x1, .int x2, .int x3] z (QI LX G b r0 z0) := by
  refine mtW_of (by decide) (Nat.le_of_ble_eq_true rfl) ?_
  intro p e s m args below meth c ls H locs C hW hS hl
  obtain ⟨hx, hb, hml, hr, hown, hts, hlk, hK⟩ := C
  have hl : lv_has ls 5 [(0, .ref (ad LX b 0 0)), (1, .int x1), (2, .int x2), (3, .int x3)] := hl
  unfold dn_X_make at h
  refine lv_aload_n hx hb d_X_make_0 rfl (lv_at hl 0 rfl) ?_
  refine q_get (L := LX) (kc := 0) (ki := 0) (C := "DeficitNet") (T := T_X) (N := 10) (ci := 0) (v := .ref (ad LX b 8 0)) hx hb hts in_X hown hK hW okX0 rfl rfl 2 (by decide) t_223 rfl d_X_make_1 ?_
  refine lv_iload_n hx hb d_X_make_4 rfl (lv_at hl 1 rfl) ?_
  obtain ⟨j1, ej1, h⟩ := bnd h
  refine q_aald (t0 := 5) (ty := (.object "DeficitNet$Flow")) (kd := 9) (L := LX) (kc := 8) (ki := 0) hx hb hK hW okX8 rfl rfl rfl ej1 d_X_make_5 ?_
  refine lv_dup hx hb d_X_make_6 rfl ?_
  refine q_get (L := LX) (kc := 9) (ki := j1) (C := "DeficitNet$Flow") (T := T_F) (N := 14) (ci := 2) (v := .int (z.1 9 j1 10)) hx hb hts in_F hown hK hW (okX9 (aix_lt ej1)) rfl rfl 10 (by decide) t_113 rfl d_X_make_7 ?_
  refine lv_iconst (v := (1 : Int32)) hx hb d_X_make_10 (by decide) ?_
  refine lv_iadd hx hb d_X_make_11 ?_
  refine q_put (L := LX) (kc := 9) (ki := j1) (C := "DeficitNet$Flow") (T := T_F) (N := 14) (ci := 2) hx hb hts in_F ty_F tyok_F nm_F hown hK hW hS (okX9 (aix_lt ej1)) rfl rfl 10 (by decide) t_113 rfl rfl rfl (Nat.le_of_ble_eq_true rfl) rfl d_X_make_12 (fun H locs z2 ez2 hW hS => ?_)
  have h := stM_n h ez2
  refine lv_iconst (v := (0 : Int32)) hx hb d_X_make_15 (by decide) ?_
  refine lv_istore hx hb d_X_make_16 hl (by decide) rfl (fun ls hl => ?_)
  have hl : lv_has ls 5 [(4, .int (0 : Int32)), (0, .ref (ad LX b 0 0)), (1, .int x1), (2, .int x2), (3, .int x3)] := hl
  refine w_X_make_18 ⟨hx, hb, hml, hr, hown, hts, hlk, hK⟩ (fun x1 x2 x3 x4 z4 ls H locs  hW hS hl h => ?_) (fun x1 z8 ls H locs  hW hS hl h => ?_) FU x1 x2 x3 (0 : Int32) z2 ls H locs  hW hS (lv_sub hl [1, 2, 3, 4, 0] rfl) h
  · refine lv_aload_n hx hb d_X_make_38 rfl (lv_at hl 0 rfl) ?_
    refine q_get (L := LX) (kc := 0) (ki := 0) (C := "DeficitNet") (T := T_X) (N := 10) (ci := 0) (v := .ref (ad LX b 10 0)) hx hb hts in_X hown hK hW okX0 rfl rfl 3 (by decide) t_224 rfl d_X_make_39 ?_
    refine lv_iload hx hb d_X_make_42 (lv_at hl 4 rfl) ?_
    obtain ⟨j5, ej5, h⟩ := bnd h
    refine q_aald (t0 := 6) (ty := (.object "DeficitNet$Packet")) (kd := 11) (L := LX) (kc := 10) (ki := 0) hx hb hK hW okX10 rfl rfl rfl ej5 d_X_make_44 ?_
    refine lv_iload_n hx hb d_X_make_45 rfl (lv_at hl 1 rfl) ?_
    refine lv_iload_n hx hb d_X_make_46 rfl (lv_at hl 2 rfl) ?_
    refine lv_iload_n hx hb d_X_make_47 rfl (lv_at hl 3 rfl) ?_
    refine lv_aload_n hx hb d_X_make_48 rfl (lv_at hl 0 rfl) ?_
    refine q_get (L := LX) (kc := 0) (ki := 0) (C := "DeficitNet") (T := T_X) (N := 10) (ci := 0) (v := .ref (ad LX b 8 0)) hx hb hts in_X hown hK hW okX0 rfl rfl 2 (by decide) t_223 rfl d_X_make_49 ?_
    refine lv_iload_n hx hb d_X_make_52 rfl (lv_at hl 1 rfl) ?_
    obtain ⟨j6, ej6, h⟩ := bnd h
    refine q_aald (t0 := 5) (ty := (.object "DeficitNet$Flow")) (kd := 9) (L := LX) (kc := 8) (ki := 0) hx hb hK hW okX8 rfl rfl rfl ej6 d_X_make_53 ?_
    obtain ⟨z7, ez7, h⟩ := bnd h
    refine q_callVv (C := "DeficitNet$Packet") (As := [.int x1, .int x2, .int x3, .ref (ad LX b 9 j6)]) (rest := []) hx hb hml hown hts hK hW hS (c_K_enter l G b j5 x1 x2 x3 j6 z4 z7 (aix_lt ej5) (aix_lt ej6) ez7) f_K_enter t_357 ⟨rfl, rfl⟩ ⟨Nat.le_of_ble_eq_true rfl, Nat.le_of_ble_eq_true rfl⟩ (q_recv (L := LX) (kc := 11) (ki := j5) hK hW (okX11 (aix_lt ej5)) rfl rfl) rfl hl.1 rfl (Nat.le_of_ble_eq_true rfl) d_X_make_54 (fun H locs hW hS => ?_)
    refine lv_iload hx hb d_X_make_57 (lv_at hl 4 rfl) ?_
    exact q_iret hx hb hr hlk hK hW hS h d_X_make_59
  · refine lv_aload_n hx hb d_X_make_66 rfl (lv_at hl 0 rfl) ?_
    refine q_get (L := LX) (kc := 0) (ki := 0) (C := "DeficitNet") (T := T_X) (N := 10) (ci := 0) (v := .ref (ad LX b 8 0)) hx hb hts in_X hown hK hW okX0 rfl rfl 2 (by decide) t_223 rfl d_X_make_67 ?_
    refine lv_iload_n hx hb d_X_make_70 rfl (lv_at hl 1 rfl) ?_
    obtain ⟨j9, ej9, h⟩ := bnd h
    refine q_aald (t0 := 5) (ty := (.object "DeficitNet$Flow")) (kd := 9) (L := LX) (kc := 8) (ki := 0) hx hb hK hW okX8 rfl rfl rfl ej9 d_X_make_71 ?_
    refine lv_dup hx hb d_X_make_72 rfl ?_
    refine q_get (L := LX) (kc := 9) (ki := j9) (C := "DeficitNet$Flow") (T := T_F) (N := 14) (ci := 2) (v := .int (z8.1 9 j9 12)) hx hb hts in_F hown hK hW (okX9 (aix_lt ej9)) rfl rfl 12 (by decide) t_117 rfl d_X_make_73 ?_
    refine lv_iconst (v := (1 : Int32)) hx hb d_X_make_76 (by decide) ?_
    refine lv_iadd hx hb d_X_make_77 ?_
    refine q_put (L := LX) (kc := 9) (ki := j9) (C := "DeficitNet$Flow") (T := T_F) (N := 14) (ci := 2) hx hb hts in_F ty_F tyok_F nm_F hown hK hW hS (okX9 (aix_lt ej9)) rfl rfl 12 (by decide) t_117 rfl rfl rfl (Nat.le_of_ble_eq_true rfl) rfl d_X_make_78 (fun H locs z10 ez10 hW hS => ?_)
    have h := stM_n h ez10
    refine lv_iconst (v := (-1 : Int32)) hx hb d_X_make_81 (by decide) ?_
    exact q_iret hx hb hr hlk hK hW hS h d_X_make_82
set_option maxHeartbeats 4000000 in
set_option maxRecDepth 100000 in
theorem w_X_way_35 {p : Program} {l : Launch} {e : Env} {s : State} {m : MethodId} {args : Array Value} {below : List Frame} {meth : Method} {c : Code} {G : GG} {b : Nat} {r0 : Int32} {z0 : Mem} (C : Cx y_X_way b_X_way 5 (some .int) p s m args meth c G) {k91 : Int32 → Mem → Option (Int32 × Mem)} {k99 : Mem → Option (Int32 × Mem)} 
    (hk91 : ∀ (x3 : Int32) (z : Mem) (ls : Array Slot) (H : Heap) (locs : List Loc), Wd LX G b z H → va_S (rgL LX b) s.heap H locs → lv_has ls 5 [(3, .int x3)] → k91 x3 z = some (r0, z0) → W p l e rm_X_way s m args below meth c H locs 0 0 (MQ below (QI LX G b r0 z0) args s 0 0 (rgL LX b)) (F0 m 91 ls []))
    (hk99 : ∀  (z : Mem) (ls : Array Slot) (H : Heap) (locs : List Loc), Wd LX G b z H → va_S (rgL LX b) s.heap H locs → lv_has ls 5 [] → k99  z = some (r0, z0) → W p l e rm_X_way s m args below meth c H locs 0 0 (MQ below (QI LX G b r0 z0) args s 0 0 (rgL LX b)) (F0 m 99 ls [])) :
    ∀ (n : Nat) (x1 : Int32) (x2 : Int32) (x3 : Int32) (z : Mem) (ls : Array Slot) (H : Heap) (locs : List Loc), Wd LX G b z H → va_S (rgL LX b) s.heap H locs → lv_has ls 5 [(0, .ref (ad LX b 0 0)), (1, .int x1), (2, .int x2), (3, .int x3)] → dn_X_way_35 k91 k99 n x1 x2 x3 z = some (r0, z0) → W p l e rm_X_way s m args below meth c H locs 0 0 (MQ below (QI LX G b r0 z0) args s 0 0 (rgL LX b)) (F0 m 35 ls []) := by
  obtain ⟨hx, hb, hml, hr, hown, hts, hlk, hK⟩ := C
  intro n
  induction n with
  | zero =>
    intro x1 x2 x3 z ls H locs  hW hS hl h
    cases h
  | succ n ih =>
    intro x1 x2 x3 z ls H locs  hW hS hl h
    rw [dn_X_way_35] at h
    refine lv_iload_n hx hb d_X_way_35 rfl (lv_at hl 3 rfl) ?_
    refine lv_iconst (v := (2 : Int32)) hx hb d_X_way_36 (by decide) ?_
    refine lv_aload_n hx hb d_X_way_37 rfl (lv_at hl 0 rfl) ?_
    refine q_get (L := LX) (kc := 0) (ki := 0) (C := "DeficitNet") (T := T_X) (N := 10) (ci := 0) (v := .int (z.1 0 0 6)) hx hb hts in_X hown hK hW okX0 rfl rfl 6 (by decide) t_227 rfl d_X_way_38 ?_
    refine lv_imul hx hb d_X_way_41 ?_
    refine lv_icmp_ge (tgt := 99) hx hb d_X_way_42 (by decide) (fun hc => ?_) (fun hc => ?_)
    · have h := ite_t h hc
      exact hk99  z ls H locs  hW hS (lv_sub hl [] rfl) h
    · have h := ite_f h hc
      refine lv_aload_n hx hb d_X_way_45 rfl (lv_at hl 0 rfl) ?_
      refine q_get (L := LX) (kc := 0) (ki := 0) (C := "DeficitNet") (T := T_X) (N := 10) (ci := 0) (v := .ref (ad LX b 3 0)) hx hb hts in_X hown hK hW okX0 rfl rfl 1 (by decide) t_222 rfl d_X_way_46 ?_
      refine lv_iload_n hx hb d_X_way_49 rfl (lv_at hl 3 rfl) ?_
      obtain ⟨j5, ej5, h⟩ := bnd h
      refine q_aald (t0 := 4) (ty := (.object "DeficitNet$Port")) (kd := 4) (L := LX) (kc := 3) (ki := 0) hx hb hK hW okX3 rfl rfl rfl ej5 d_X_way_50 ?_
      refine lv_astore hx hb d_X_way_51 hl (by decide) rfl (fun ls hl => ?_)
      have hl : lv_has ls 5 [(4, .ref (ad LX b 4 j5)), (0, .ref (ad LX b 0 0)), (1, .int x1), (2, .int x2), (3, .int x3)] := hl
      refine lv_aload hx hb d_X_way_53 (lv_at hl 0 rfl) ?_
      refine q_get (L := LX) (kc := 4) (ki := j5) (C := "DeficitNet$Port") (T := T_P) (N := 14) (ci := 4) (v := .int (z.1 4 j5 0)) hx hb hts in_P hown hK hW (okX4 (aix_lt ej5)) rfl rfl 0 (by decide) t_28 rfl d_X_way_55 ?_
      refine lv_iload_n hx hb d_X_way_58 rfl (lv_at hl 2 rfl) ?_
      refine lv_icmp_ne (tgt := 93) hx hb d_X_way_59 (by decide) (fun hc => ?_) (fun hc => ?_)
      · have h := ite_f h hc
        refine lv_iinc (k := 4) (v := (x3 + (1 : Int32))) hx hb d_X_way_93 hl rfl rfl (by decide) rfl (fun ls hl => ?_)
        have hl : lv_has ls 5 [(3, .int (x3 + (1 : Int32))), (4, .ref (ad LX b 4 j5)), (0, .ref (ad LX b 0 0)), (1, .int x1), (2, .int x2)] := hl
        refine lv_goto (tgt := 35) hx hb d_X_way_96 (by decide) ?_
        exact ih x1 x2 (x3 + (1 : Int32)) z ls H locs  hW hS (lv_sub hl [2, 3, 4, 0] rfl) h
      · have h := ite_t h hc
        refine lv_aload hx hb d_X_way_62 (lv_at hl 0 rfl) ?_
        refine q_get (L := LX) (kc := 4) (ki := j5) (C := "DeficitNet$Port") (T := T_P) (N := 14) (ci := 4) (v := .int (z.1 4 j5 2)) hx hb hts in_P hown hK hW (okX4 (aix_lt ej5)) rfl rfl 2 (by decide) t_32 rfl d_X_way_64 ?_
        refine lv_aload_n hx hb d_X_way_67 rfl (lv_at hl 1 rfl) ?_
        refine q_get (L := LX) (kc := 0) (ki := 0) (C := "DeficitNet") (T := T_X) (N := 10) (ci := 0) (v := .ref (ad LX b 1 0)) hx hb hts in_X hown hK hW okX0 rfl rfl 0 (by decide) t_221 rfl d_X_way_68 ?_
        refine lv_aload hx hb d_X_way_71 (lv_at hl 0 rfl) ?_
        refine q_get (L := LX) (kc := 4) (ki := j5) (C := "DeficitNet$Port") (T := T_P) (N := 14) (ci := 4) (v := .int (z.1 4 j5 1)) hx hb hts in_P hown hK hW (okX4 (aix_lt ej5)) rfl rfl 1 (by decide) t_30 rfl d_X_way_73 ?_
        obtain ⟨j6, ej6, h⟩ := bnd h
        refine q_aald (t0 := 3) (ty := (.array .int)) (kd := 2) (L := LX) (kc := 1) (ki := 0) hx hb hK hW okX1 rfl rfl rfl ej6 d_X_way_76 ?_
        refine lv_iload_n hx hb d_X_way_77 rfl (lv_at hl 3 rfl) ?_
        obtain ⟨j7, ej7, h⟩ := bnd h
        refine q_iald (L := LX) (kc := 2) (ki := j6) hx hb hK hW (okX2 (aix_lt ej6)) rfl ej7 d_X_way_78 ?_
        refine lv_iadd hx hb d_X_way_79 ?_
        refine lv_aload_n hx hb d_X_way_80 rfl (lv_at hl 1 rfl) ?_
        refine q_get (L := LX) (kc := 0) (ki := 0) (C := "DeficitNet") (T := T_X) (N := 10) (ci := 0) (v := .ref (ad LX b 1 0)) hx hb hts in_X hown hK hW okX0 rfl rfl 0 (by decide) t_221 rfl d_X_way_81 ?_
        refine lv_iload_n hx hb d_X_way_84 rfl (lv_at hl 2 rfl) ?_
        obtain ⟨j8, ej8, h⟩ := bnd h
        refine q_aald (t0 := 3) (ty := (.array .int)) (kd := 2) (L := LX) (kc := 1) (ki := 0) hx hb hK hW okX1 rfl rfl rfl ej8 d_X_way_85 ?_
        refine lv_iload_n hx hb d_X_way_86 rfl (lv_at hl 3 rfl) ?_
        obtain ⟨j9, ej9, h⟩ := bnd h
        refine q_iald (L := LX) (kc := 2) (ki := j8) hx hb hK hW (okX2 (aix_lt ej8)) rfl ej9 d_X_way_87 ?_
        refine lv_icmp_ne (tgt := 93) hx hb d_X_way_88 (by decide) (fun hc => ?_) (fun hc => ?_)
        · have h := ite_f h hc
          refine lv_iinc (k := 4) (v := (x3 + (1 : Int32))) hx hb d_X_way_93 hl rfl rfl (by decide) rfl (fun ls hl => ?_)
          have hl : lv_has ls 5 [(3, .int (x3 + (1 : Int32))), (4, .ref (ad LX b 4 j5)), (0, .ref (ad LX b 0 0)), (1, .int x1), (2, .int x2)] := hl
          refine lv_goto (tgt := 35) hx hb d_X_way_96 (by decide) ?_
          exact ih x1 x2 (x3 + (1 : Int32)) z ls H locs  hW hS (lv_sub hl [2, 3, 4, 0] rfl) h
        · have h := ite_t h hc
          exact hk91 x3 z ls H locs  hW hS (lv_sub hl [4] rfl) h
set_option maxHeartbeats 4000000 in
set_option maxRecDepth 100000 in
theorem c_X_way (l : Launch) (G : GG) (b : Nat) (x1 : Int32) (x2 : Int32) (z : Mem) (r0 : Int32) (z0 : Mem) (h : dn_X_way x1 x2 z = some (r0, z0)) : MtW l y_X_way b_X_way 5 (some .int) rm_X_way LX G b [.ref (ad LX b 0 0), .int x1, .int x2] z (QI LX G b r0 z0) := by
  refine mtW_of (by decide) (Nat.le_of_ble_eq_true rfl) ?_
  intro p e s m args below meth c ls H locs C hW hS hl
  obtain ⟨hx, hb, hml, hr, hown, hts, hlk, hK⟩ := C
  have hl : lv_has ls 5 [(0, .ref (ad LX b 0 0)), (1, .int x1), (2, .int x2)] := hl
  unfold dn_X_way at h
  refine lv_iload_n hx hb d_X_way_0 rfl (lv_at hl 1 rfl) ?_
  obtain ⟨v1, ev1, h⟩ := bnd h
  refine q_callPi (As := [.int x1]) (rest := []) hx hb hml hown hts hW hS (c_X_isNode l x1 v1 ev1) f_X_isNode t_257 ⟨rfl, rfl⟩ ⟨Nat.le_of_ble_eq_true rfl, Nat.le_of_ble_eq_true rfl⟩ rfl hl.1 rfl (Nat.le_of_ble_eq_true rfl) d_X_way_1 (fun H locs hW hS => ?_)
  refine lv_if_eq (tgt := 31) hx hb d_X_way_4 (by decide) (fun hc => ?_) (fun hc => ?_)
  · have h := ite_t h hc
    refine lv_iconst (v := (-1 : Int32)) hx hb d_X_way_31 (by decide) ?_
    exact q_iret hx hb hr hlk hK hW hS h d_X_way_32
  · have h := ite_f h hc
    refine lv_iload_n hx hb d_X_way_7 rfl (lv_at hl 2 rfl) ?_
    obtain ⟨v2, ev2, h⟩ := bnd h
    refine q_callPi (As := [.int x2]) (rest := []) hx hb hml hown hts hW hS (c_X_isNode l x2 v2 ev2) f_X_isNode t_257 ⟨rfl, rfl⟩ ⟨Nat.le_of_ble_eq_true rfl, Nat.le_of_ble_eq_true rfl⟩ rfl hl.1 rfl (Nat.le_of_ble_eq_true rfl) d_X_way_8 (fun H locs hW hS => ?_)
    refine lv_if_eq (tgt := 31) hx hb d_X_way_11 (by decide) (fun hc => ?_) (fun hc => ?_)
    · have h := ite_t h hc
      refine lv_iconst (v := (-1 : Int32)) hx hb d_X_way_31 (by decide) ?_
      exact q_iret hx hb hr hlk hK hW hS h d_X_way_32
    · have h := ite_f h hc
      refine lv_iload_n hx hb d_X_way_14 rfl (lv_at hl 1 rfl) ?_
      refine lv_iload_n hx hb d_X_way_15 rfl (lv_at hl 2 rfl) ?_
      refine lv_icmp_eq (tgt := 31) hx hb d_X_way_16 (by decide) (fun hc => ?_) (fun hc => ?_)
      · have h := ite_t h hc
        refine lv_iconst (v := (-1 : Int32)) hx hb d_X_way_31 (by decide) ?_
        exact q_iret hx hb hr hlk hK hW hS h d_X_way_32
      · have h := ite_f h hc
        refine lv_aload_n hx hb d_X_way_19 rfl (lv_at hl 0 rfl) ?_
        refine q_get (L := LX) (kc := 0) (ki := 0) (C := "DeficitNet") (T := T_X) (N := 10) (ci := 0) (v := .ref (ad LX b 1 0)) hx hb hts in_X hown hK hW okX0 rfl rfl 0 (by decide) t_221 rfl d_X_way_20 ?_
        refine lv_iload_n hx hb d_X_way_23 rfl (lv_at hl 1 rfl) ?_
        obtain ⟨j3, ej3, h⟩ := bnd h
        refine q_aald (t0 := 3) (ty := (.array .int)) (kd := 2) (L := LX) (kc := 1) (ki := 0) hx hb hK hW okX1 rfl rfl rfl ej3 d_X_way_24 ?_
        refine lv_iload_n hx hb d_X_way_25 rfl (lv_at hl 2 rfl) ?_
        obtain ⟨j4, ej4, h⟩ := bnd h
        refine q_iald (L := LX) (kc := 2) (ki := j3) hx hb hK hW (okX2 (aix_lt ej3)) rfl ej4 d_X_way_26 ?_
        refine lv_iconst (v := (-1 : Int32)) hx hb d_X_way_27 (by decide) ?_
        refine lv_icmp_ne (tgt := 33) hx hb d_X_way_28 (by decide) (fun hc => ?_) (fun hc => ?_)
        · have h := ite_f h hc
          refine lv_iconst (v := (0 : Int32)) hx hb d_X_way_33 (by decide) ?_
          refine lv_istore_n hx hb d_X_way_34 rfl hl (by decide) rfl (fun ls hl => ?_)
          have hl : lv_has ls 5 [(3, .int (0 : Int32)), (0, .ref (ad LX b 0 0)), (1, .int x1), (2, .int x2)] := hl
          refine w_X_way_35 ⟨hx, hb, hml, hr, hown, hts, hlk, hK⟩ (fun x3 z10 ls H locs  hW hS hl h => ?_) (fun z11 ls H locs  hW hS hl h => ?_) FU x1 x2 (0 : Int32) z ls H locs  hW hS (lv_sub hl [1, 2, 3, 0] rfl) h
          · refine lv_iload_n hx hb d_X_way_91 rfl (lv_at hl 0 rfl) ?_
            exact q_iret hx hb hr hlk hK hW hS h d_X_way_92
          · refine lv_iconst (v := (-1 : Int32)) hx hb d_X_way_99 (by decide) ?_
            exact q_iret hx hb hr hlk hK hW hS h d_X_way_100
        · have h := ite_t h hc
          refine lv_iconst (v := (-1 : Int32)) hx hb d_X_way_31 (by decide) ?_
          exact q_iret hx hb hr hlk hK hW hS h d_X_way_32
set_option maxHeartbeats 4000000 in
set_option maxRecDepth 100000 in
theorem w_X_queuedOf_5 {p : Program} {l : Launch} {e : Env} {s : State} {m : MethodId} {args : Array Value} {below : List Frame} {meth : Method} {c : Code} {G : GG} {b : Nat} {r0 : Int32} {z0 : Mem} (C : Cx y_X_queuedOf b_X_queuedOf 5 (some .int) p s m args meth c G) {k42 : Int32 → Mem → Option (Int32 × Mem)} 
    (hk42 : ∀ (x3 : Int32) (z : Mem) (ls : Array Slot) (H : Heap) (locs : List Loc), Wd LX G b z H → va_S (rgL LX b) s.heap H locs → lv_has ls 5 [(3, .int x3)] → k42 x3 z = some (r0, z0) → W p l e rm_X_queuedOf s m args below meth c H locs 0 0 (MQ below (QI LX G b r0 z0) args s 0 0 (rgL LX b)) (F0 m 42 ls [])) :
    ∀ (n : Nat) (x1 : Nat) (x2 : Int32) (x3 : Int32) (x4 : Int32) (z : Mem) (ls : Array Slot) (H : Heap) (locs : List Loc), x1 < 24 → Wd LX G b z H → va_S (rgL LX b) s.heap H locs → lv_has ls 5 [(0, .ref (ad LX b 0 0)), (1, .ref (ad LX b 4 x1)), (2, .int x2), (3, .int x3), (4, .int x4)] → dn_X_queuedOf_5 k42 n x1 x2 x3 x4 z = some (r0, z0) → W p l e rm_X_queuedOf s m args below meth c H locs 0 0 (MQ below (QI LX G b r0 z0) args s 0 0 (rgL LX b)) (F0 m 5 ls []) := by
  obtain ⟨hx, hb, hml, hr, hown, hts, hlk, hK⟩ := C
  intro n
  induction n with
  | zero =>
    intro x1 x2 x3 x4 z ls H locs qx1 hW hS hl h
    cases h
  | succ n ih =>
    intro x1 x2 x3 x4 z ls H locs qx1 hW hS hl h
    rw [dn_X_queuedOf_5] at h
    refine lv_iload hx hb d_X_queuedOf_5 (lv_at hl 4 rfl) ?_
    refine lv_aload_n hx hb d_X_queuedOf_7 rfl (lv_at hl 1 rfl) ?_
    refine q_get (L := LX) (kc := 4) (ki := x1) (C := "DeficitNet$Port") (T := T_P) (N := 14) (ci := 4) (v := .int (z.1 4 x1 8)) hx hb hts in_P hown hK hW (okX4 qx1) rfl rfl 8 (by decide) t_44 rfl d_X_queuedOf_8 ?_
    refine lv_icmp_ge (tgt := 42) hx hb d_X_queuedOf_11 (by decide) (fun hc => ?_) (fun hc => ?_)
    · have h := ite_t h hc
      exact hk42 x3 z ls H locs  hW hS (lv_sub hl [3] rfl) h
    · have h := ite_f h hc
      refine lv_aload_n hx hb d_X_queuedOf_14 rfl (lv_at hl 0 rfl) ?_
      refine q_get (L := LX) (kc := 0) (ki := 0) (C := "DeficitNet") (T := T_X) (N := 10) (ci := 0) (v := .ref (ad LX b 10 0)) hx hb hts in_X hown hK hW okX0 rfl rfl 3 (by decide) t_224 rfl d_X_queuedOf_15 ?_
      refine lv_aload_n hx hb d_X_queuedOf_18 rfl (lv_at hl 1 rfl) ?_
      refine q_get (L := LX) (kc := 4) (ki := x1) (C := "DeficitNet$Port") (T := T_P) (N := 14) (ci := 4) (v := .ref (ad LX b 5 x1)) hx hb hts in_P hown hK hW (okX4 qx1) rfl rfl 11 (by decide) t_48 rfl d_X_queuedOf_19 ?_
      refine lv_iload hx hb d_X_queuedOf_22 (lv_at hl 4 rfl) ?_
      obtain ⟨j1, ej1, h⟩ := bnd h
      refine q_iald (L := LX) (kc := 5) (ki := x1) hx hb hK hW (okX5 qx1) rfl ej1 d_X_queuedOf_24 ?_
      obtain ⟨j2, ej2, h⟩ := bnd h
      refine q_aald (t0 := 6) (ty := (.object "DeficitNet$Packet")) (kd := 11) (L := LX) (kc := 10) (ki := 0) hx hb hK hW okX10 rfl rfl rfl ej2 d_X_queuedOf_25 ?_
      refine q_get (L := LX) (kc := 11) (ki := j2) (C := "DeficitNet$Packet") (T := T_K) (N := 7) (ci := 3) (v := .int (z.1 11 j2 2)) hx hb hts in_K hown hK hW (okX11 (aix_lt ej2)) rfl rfl 2 (by decide) t_161 rfl d_X_queuedOf_26 ?_
      refine lv_iload_n hx hb d_X_queuedOf_29 rfl (lv_at hl 2 rfl) ?_
      refine lv_icmp_ne (tgt := 36) hx hb d_X_queuedOf_30 (by decide) (fun hc => ?_) (fun hc => ?_)
      · have h := ite_f h hc
        refine lv_iinc (k := 4) (v := (x4 + (1 : Int32))) hx hb d_X_queuedOf_36 hl rfl rfl (by decide) rfl (fun ls hl => ?_)
        have hl : lv_has ls 5 [(4, .int (x4 + (1 : Int32))), (0, .ref (ad LX b 0 0)), (1, .ref (ad LX b 4 x1)), (2, .int x2), (3, .int x3)] := hl
        refine lv_goto (tgt := 5) hx hb d_X_queuedOf_39 (by decide) ?_
        exact ih x1 x2 x3 (x4 + (1 : Int32)) z ls H locs qx1 hW hS (lv_sub hl [1, 2, 3, 4, 0] rfl) h
      · have h := ite_t h hc
        refine lv_iinc (k := 3) (v := (x3 + (1 : Int32))) hx hb d_X_queuedOf_33 hl rfl rfl (by decide) rfl (fun ls hl => ?_)
        have hl : lv_has ls 5 [(3, .int (x3 + (1 : Int32))), (0, .ref (ad LX b 0 0)), (1, .ref (ad LX b 4 x1)), (2, .int x2), (4, .int x4)] := hl
        refine lv_iinc (k := 4) (v := (x4 + (1 : Int32))) hx hb d_X_queuedOf_36 hl rfl rfl (by decide) rfl (fun ls hl => ?_)
        have hl : lv_has ls 5 [(4, .int (x4 + (1 : Int32))), (3, .int (x3 + (1 : Int32))), (0, .ref (ad LX b 0 0)), (1, .ref (ad LX b 4 x1)), (2, .int x2)] := hl
        refine lv_goto (tgt := 5) hx hb d_X_queuedOf_39 (by decide) ?_
        exact ih x1 x2 (x3 + (1 : Int32)) (x4 + (1 : Int32)) z ls H locs qx1 hW hS (lv_sub hl [2, 3, 4, 1, 0] rfl) h
set_option maxHeartbeats 4000000 in
set_option maxRecDepth 100000 in
theorem c_X_queuedOf (l : Launch) (G : GG) (b : Nat) (x1 : Nat) (x2 : Int32) (z : Mem) (r0 : Int32) (z0 : Mem) (qx1 : x1 < 24) (h : dn_X_queuedOf x1 x2 z = some (r0, z0)) : MtW l y_X_queuedOf b_X_queuedOf 5 (some .int) rm_X_queuedOf LX G b [.ref (ad LX b 0 0), .ref (ad LX b 4 x1), .int x2] z (QI LX G b r0 z0) := by
  refine mtW_of (by decide) (Nat.le_of_ble_eq_true rfl) ?_
  intro p e s m args below meth c ls H locs C hW hS hl
  obtain ⟨hx, hb, hml, hr, hown, hts, hlk, hK⟩ := C
  have hl : lv_has ls 5 [(0, .ref (ad LX b 0 0)), (1, .ref (ad LX b 4 x1)), (2, .int x2)] := hl
  unfold dn_X_queuedOf at h
  refine lv_iconst (v := (0 : Int32)) hx hb d_X_queuedOf_0 (by decide) ?_
  refine lv_istore_n hx hb d_X_queuedOf_1 rfl hl (by decide) rfl (fun ls hl => ?_)
  have hl : lv_has ls 5 [(3, .int (0 : Int32)), (0, .ref (ad LX b 0 0)), (1, .ref (ad LX b 4 x1)), (2, .int x2)] := hl
  refine lv_iconst (v := (0 : Int32)) hx hb d_X_queuedOf_2 (by decide) ?_
  refine lv_istore hx hb d_X_queuedOf_3 hl (by decide) rfl (fun ls hl => ?_)
  have hl : lv_has ls 5 [(4, .int (0 : Int32)), (3, .int (0 : Int32)), (0, .ref (ad LX b 0 0)), (1, .ref (ad LX b 4 x1)), (2, .int x2)] := hl
  refine w_X_queuedOf_5 ⟨hx, hb, hml, hr, hown, hts, hlk, hK⟩ (fun x3 z3 ls H locs  hW hS hl h => ?_) FU x1 x2 (0 : Int32) (0 : Int32) z ls H locs qx1 hW hS (lv_sub hl [2, 3, 4, 1, 0] rfl) h
  · refine lv_iload_n hx hb d_X_queuedOf_42 rfl (lv_at hl 0 rfl) ?_
    exact q_iret hx hb hr hlk hK hW hS h d_X_queuedOf_43
set_option maxHeartbeats 4000000 in
set_option maxRecDepth 100000 in
theorem c_P_serveFirst (l : Launch) (G : GG) (b : Nat) (x0 : Nat) (z : Mem) (z0 : Mem) (qx0 : x0 < 24) (h : dn_P_serveFirst x0 z = some z0) : MtW l y_P_serveFirst b_P_serveFirst 1 none rm_P_serveFirst LX G b [.ref (ad LX b 4 x0)] z (QV LX G b z0) := by
  refine mtW_of (by decide) (Nat.le_of_ble_eq_true rfl) ?_
  intro p e s m args below meth c ls H locs C hW hS hl
  obtain ⟨hx, hb, hml, hr, hown, hts, hlk, hK⟩ := C
  have hl : lv_has ls 1 [(0, .ref (ad LX b 4 x0))] := hl
  unfold dn_P_serveFirst at h
  refine lv_aload_n hx hb d_P_serveFirst_0 rfl (lv_at hl 0 rfl) ?_
  refine q_get (L := LX) (kc := 4) (ki := x0) (C := "DeficitNet$Port") (T := T_P) (N := 14) (ci := 4) (v := .int (z.1 4 x0 10)) hx hb hts in_P hown hK hW (okX4 qx0) rfl rfl 10 (by decide) t_46 rfl d_P_serveFirst_1 ?_
  refine lv_if_ne (tgt := 30) hx hb d_P_serveFirst_4 (by decide) (fun hc => ?_) (fun hc => ?_)
  · have h := ite_f h hc
    exact q_vret hx hb hr hlk hK hW hS h d_P_serveFirst_30
  · have h := ite_t h hc
    refine lv_aload_n hx hb d_P_serveFirst_7 rfl (lv_at hl 0 rfl) ?_
    refine q_get (L := LX) (kc := 4) (ki := x0) (C := "DeficitNet$Port") (T := T_P) (N := 14) (ci := 4) (v := .ref (ad LX b 7 x0)) hx hb hts in_P hown hK hW (okX4 qx0) rfl rfl 13 (by decide) t_51 rfl d_P_serveFirst_8 ?_
    refine lv_aload_n hx hb d_P_serveFirst_11 rfl (lv_at hl 0 rfl) ?_
    refine q_get (L := LX) (kc := 4) (ki := x0) (C := "DeficitNet$Port") (T := T_P) (N := 14) (ci := 4) (v := .ref (ad LX b 6 x0)) hx hb hts in_P hown hK hW (okX4 qx0) rfl rfl 12 (by decide) t_49 rfl d_P_serveFirst_12 ?_
    refine lv_iconst (v := (0 : Int32)) hx hb d_P_serveFirst_15 (by decide) ?_
    obtain ⟨j1, ej1, h⟩ := bnd h
    refine q_iald (L := LX) (kc := 6) (ki := x0) hx hb hK hW (okX6 qx0) rfl ej1 d_P_serveFirst_16 ?_
    refine lv_dup2_11 hx hb d_P_serveFirst_17 rfl rfl ?_
    obtain ⟨j2, ej2, h⟩ := bnd h
    refine q_iald (L := LX) (kc := 7) (ki := x0) hx hb hK hW (okX7 qx0) rfl ej2 d_P_serveFirst_18 ?_
    refine lv_aload_n hx hb d_P_serveFirst_19 rfl (lv_at hl 0 rfl) ?_
    refine q_get (L := LX) (kc := 4) (ki := x0) (C := "DeficitNet$Port") (T := T_P) (N := 14) (ci := 4) (v := .int (z.1 4 x0 5)) hx hb hts in_P hown hK hW (okX4 qx0) rfl rfl 5 (by decide) t_37 rfl d_P_serveFirst_20 ?_
    refine lv_iadd hx hb d_P_serveFirst_23 ?_
    obtain ⟨j3, ej3, h⟩ := bnd h
    refine q_iast (L := LX) (kc := 7) (ki := x0) hx hb hK hW hS (okX7 qx0) (fun _ => rfl) ej3 d_P_serveFirst_24 (fun H locs z4 ez4 hW hS => ?_)
    have h := stM_n h ez4
    refine lv_aload_n hx hb d_P_serveFirst_25 rfl (lv_at hl 0 rfl) ?_
    refine lv_iconst (v := (1 : Int32)) hx hb d_P_serveFirst_26 (by decide) ?_
    obtain ⟨_, u5, h⟩ := bnd h
    refine q_put (L := LX) (kc := 4) (ki := x0) (C := "DeficitNet$Port") (T := T_P) (N := 14) (ci := 4) hx hb hts in_P ty_P tyok_P nm_P hown hK hW hS (okX4 qx0) rfl rfl 10 (by decide) t_46 rfl (bz_nar (bz_some u5)) (bz_fit (bz_some u5)) (Nat.le_of_ble_eq_true rfl) rfl d_P_serveFirst_27 (fun H locs z6 ez6 hW hS => ?_)
    have h := stM_n h ez6
    exact q_vret hx hb hr hlk hK hW hS h d_P_serveFirst_30
set_option maxHeartbeats 4000000 in
set_option maxRecDepth 100000 in
theorem w_X_firstPlaceOf_2 {p : Program} {l : Launch} {e : Env} {s : State} {m : MethodId} {args : Array Value} {below : List Frame} {meth : Method} {c : Code} {G : GG} {b : Nat} {r0 : Int32} {z0 : Mem} (C : Cx y_X_firstPlaceOf b_X_firstPlaceOf 4 (some .int) p s m args meth c G) {k36 : Int32 → Mem → Option (Int32 × Mem)} 
    (hk36 : ∀ (x3 : Int32) (z : Mem) (ls : Array Slot) (H : Heap) (locs : List Loc), Wd LX G b z H → va_S (rgL LX b) s.heap H locs → lv_has ls 4 [(3, .int x3)] → k36 x3 z = some (r0, z0) → W p l e rm_X_firstPlaceOf s m args below meth c H locs 0 0 (MQ below (QI LX G b r0 z0) args s 0 0 (rgL LX b)) (F0 m 36 ls [])) :
    ∀ (n : Nat) (x1 : Nat) (x2 : Int32) (x3 : Int32) (z : Mem) (ls : Array Slot) (H : Heap) (locs : List Loc), x1 < 24 → Wd LX G b z H → va_S (rgL LX b) s.heap H locs → lv_has ls 4 [(0, .ref (ad LX b 0 0)), (1, .ref (ad LX b 4 x1)), (2, .int x2), (3, .int x3)] → dn_X_firstPlaceOf_2 k36 n x1 x2 x3 z = some (r0, z0) → W p l e rm_X_firstPlaceOf s m args below meth c H locs 0 0 (MQ below (QI LX G b r0 z0) args s 0 0 (rgL LX b)) (F0 m 2 ls []) := by
  obtain ⟨hx, hb, hml, hr, hown, hts, hlk, hK⟩ := C
  intro n
  induction n with
  | zero =>
    intro x1 x2 x3 z ls H locs qx1 hW hS hl h
    cases h
  | succ n ih =>
    intro x1 x2 x3 z ls H locs qx1 hW hS hl h
    rw [dn_X_firstPlaceOf_2] at h
    refine lv_iload_n hx hb d_X_firstPlaceOf_2 rfl (lv_at hl 3 rfl) ?_
    refine lv_aload_n hx hb d_X_firstPlaceOf_3 rfl (lv_at hl 1 rfl) ?_
    refine q_get (L := LX) (kc := 4) (ki := x1) (C := "DeficitNet$Port") (T := T_P) (N := 14) (ci := 4) (v := .int (z.1 4 x1 8)) hx hb hts in_P hown hK hW (okX4 qx1) rfl rfl 8 (by decide) t_44 rfl d_X_firstPlaceOf_4 ?_
    refine lv_iconst (v := (1 : Int32)) hx hb d_X_firstPlaceOf_7 (by decide) ?_
    refine lv_isub hx hb d_X_firstPlaceOf_8 ?_
    refine lv_icmp_ge (tgt := 36) hx hb d_X_firstPlaceOf_9 (by decide) (fun hc => ?_) (fun hc => ?_)
    · have h := ite_t h hc
      exact hk36 x3 z ls H locs  hW hS (lv_sub hl [3] rfl) h
    · have h := ite_f h hc
      refine lv_aload_n hx hb d_X_firstPlaceOf_12 rfl (lv_at hl 0 rfl) ?_
      refine q_get (L := LX) (kc := 0) (ki := 0) (C := "DeficitNet") (T := T_X) (N := 10) (ci := 0) (v := .ref (ad LX b 10 0)) hx hb hts in_X hown hK hW okX0 rfl rfl 3 (by decide) t_224 rfl d_X_firstPlaceOf_13 ?_
      refine lv_aload_n hx hb d_X_firstPlaceOf_16 rfl (lv_at hl 1 rfl) ?_
      refine q_get (L := LX) (kc := 4) (ki := x1) (C := "DeficitNet$Port") (T := T_P) (N := 14) (ci := 4) (v := .ref (ad LX b 5 x1)) hx hb hts in_P hown hK hW (okX4 qx1) rfl rfl 11 (by decide) t_48 rfl d_X_firstPlaceOf_17 ?_
      refine lv_iload_n hx hb d_X_firstPlaceOf_20 rfl (lv_at hl 3 rfl) ?_
      obtain ⟨j1, ej1, h⟩ := bnd h
      refine q_iald (L := LX) (kc := 5) (ki := x1) hx hb hK hW (okX5 qx1) rfl ej1 d_X_firstPlaceOf_21 ?_
      obtain ⟨j2, ej2, h⟩ := bnd h
      refine q_aald (t0 := 6) (ty := (.object "DeficitNet$Packet")) (kd := 11) (L := LX) (kc := 10) (ki := 0) hx hb hK hW okX10 rfl rfl rfl ej2 d_X_firstPlaceOf_22 ?_
      refine q_get (L := LX) (kc := 11) (ki := j2) (C := "DeficitNet$Packet") (T := T_K) (N := 7) (ci := 3) (v := .int (z.1 11 j2 2)) hx hb hts in_K hown hK hW (okX11 (aix_lt ej2)) rfl rfl 2 (by decide) t_161 rfl d_X_firstPlaceOf_23 ?_
      refine lv_iload_n hx hb d_X_firstPlaceOf_26 rfl (lv_at hl 2 rfl) ?_
      refine lv_icmp_eq (tgt := 36) hx hb d_X_firstPlaceOf_27 (by decide) (fun hc => ?_) (fun hc => ?_)
      · have h := ite_t h hc
        exact hk36 x3 z ls H locs  hW hS (lv_sub hl [3] rfl) h
      · have h := ite_f h hc
        refine lv_iinc (k := 3) (v := (x3 + (1 : Int32))) hx hb d_X_firstPlaceOf_30 hl rfl rfl (by decide) rfl (fun ls hl => ?_)
        have hl : lv_has ls 4 [(3, .int (x3 + (1 : Int32))), (0, .ref (ad LX b 0 0)), (1, .ref (ad LX b 4 x1)), (2, .int x2)] := hl
        refine lv_goto (tgt := 2) hx hb d_X_firstPlaceOf_33 (by decide) ?_
        exact ih x1 x2 (x3 + (1 : Int32)) z ls H locs qx1 hW hS (lv_sub hl [1, 2, 3, 0] rfl) h
set_option maxHeartbeats 4000000 in
set_option maxRecDepth 100000 in
theorem c_X_firstPlaceOf (l : Launch) (G : GG) (b : Nat) (x1 : Nat) (x2 : Int32) (z : Mem) (r0 : Int32) (z0 : Mem) (qx1 : x1 < 24) (h : dn_X_firstPlaceOf x1 x2 z = some (r0, z0)) : MtW l y_X_firstPlaceOf b_X_firstPlaceOf 4 (some .int) rm_X_firstPlaceOf LX G b [.ref (ad LX b 0 0), .ref (ad LX b 4 x1), .int x2] z (QI LX G b r0 z0) := by
  refine mtW_of (by decide) (Nat.le_of_ble_eq_true rfl) ?_
  intro p e s m args below meth c ls H locs C hW hS hl
  obtain ⟨hx, hb, hml, hr, hown, hts, hlk, hK⟩ := C
  have hl : lv_has ls 4 [(0, .ref (ad LX b 0 0)), (1, .ref (ad LX b 4 x1)), (2, .int x2)] := hl
  unfold dn_X_firstPlaceOf at h
  refine lv_iconst (v := (0 : Int32)) hx hb d_X_firstPlaceOf_0 (by decide) ?_
  refine lv_istore_n hx hb d_X_firstPlaceOf_1 rfl hl (by decide) rfl (fun ls hl => ?_)
  have hl : lv_has ls 4 [(3, .int (0 : Int32)), (0, .ref (ad LX b 0 0)), (1, .ref (ad LX b 4 x1)), (2, .int x2)] := hl
  refine w_X_firstPlaceOf_2 ⟨hx, hb, hml, hr, hown, hts, hlk, hK⟩ (fun x3 z3 ls H locs  hW hS hl h => ?_) FU x1 x2 (0 : Int32) z ls H locs qx1 hW hS (lv_sub hl [1, 2, 3, 0] rfl) h
  · refine lv_iload_n hx hb d_X_firstPlaceOf_36 rfl (lv_at hl 0 rfl) ?_
    exact q_iret hx hb hr hlk hK hW hS h d_X_firstPlaceOf_37
set_option maxHeartbeats 4000000 in
set_option maxRecDepth 100000 in
theorem c_P_dropFirst (l : Launch) (G : GG) (b : Nat) (x0 : Nat) (z : Mem) (z0 : Mem) (qx0 : x0 < 24) (h : dn_P_dropFirst x0 z = some z0) : MtW l y_P_dropFirst b_P_dropFirst 1 none rm_P_dropFirst LX G b [.ref (ad LX b 4 x0)] z (QV LX G b z0) := by
  refine mtW_of (by decide) (Nat.le_of_ble_eq_true rfl) ?_
  intro p e s m args below meth c ls H locs C hW hS hl
  obtain ⟨hx, hb, hml, hr, hown, hts, hlk, hK⟩ := C
  have hl : lv_has ls 1 [(0, .ref (ad LX b 4 x0))] := hl
  unfold dn_P_dropFirst at h
  refine lv_aload_n hx hb d_P_dropFirst_0 rfl (lv_at hl 0 rfl) ?_
  refine q_get (L := LX) (kc := 4) (ki := x0) (C := "DeficitNet$Port") (T := T_P) (N := 14) (ci := 4) (v := .int (z.1 4 x0 9)) hx hb hts in_P hown hK hW (okX4 qx0) rfl rfl 9 (by decide) t_45 rfl d_P_dropFirst_1 ?_
  refine lv_if_le (tgt := 39) hx hb d_P_dropFirst_4 (by decide) (fun hc => ?_) (fun hc => ?_)
  · have h := ite_t h hc
    exact q_vret hx hb hr hlk hK hW hS h d_P_dropFirst_39
  · have h := ite_f h hc
    refine lv_aload_n hx hb d_P_dropFirst_7 rfl (lv_at hl 0 rfl) ?_
    refine lv_dup hx hb d_P_dropFirst_8 rfl ?_
    refine q_get (L := LX) (kc := 4) (ki := x0) (C := "DeficitNet$Port") (T := T_P) (N := 14) (ci := 4) (v := .int (z.1 4 x0 9)) hx hb hts in_P hown hK hW (okX4 qx0) rfl rfl 9 (by decide) t_45 rfl d_P_dropFirst_9 ?_
    refine lv_iconst (v := (1 : Int32)) hx hb d_P_dropFirst_12 (by decide) ?_
    refine lv_isub hx hb d_P_dropFirst_13 ?_
    refine q_put (L := LX) (kc := 4) (ki := x0) (C := "DeficitNet$Port") (T := T_P) (N := 14) (ci := 4) hx hb hts in_P ty_P tyok_P nm_P hown hK hW hS (okX4 qx0) rfl rfl 9 (by decide) t_45 rfl rfl rfl (Nat.le_of_ble_eq_true rfl) rfl d_P_dropFirst_14 (fun H locs z1 ez1 hW hS => ?_)
    have h := stM_n h ez1
    refine lv_aload_n hx hb d_P_dropFirst_17 rfl (lv_at hl 0 rfl) ?_
    refine q_get (L := LX) (kc := 4) (ki := x0) (C := "DeficitNet$Port") (T := T_P) (N := 14) (ci := 4) (v := .ref (ad LX b 6 x0)) hx hb hts in_P hown hK hW (okX4 qx0) rfl rfl 12 (by decide) t_49 rfl d_P_dropFirst_18 ?_
    refine lv_iconst (v := (1 : Int32)) hx hb d_P_dropFirst_21 (by decide) ?_
    refine lv_aload_n hx hb d_P_dropFirst_22 rfl (lv_at hl 0 rfl) ?_
    refine q_get (L := LX) (kc := 4) (ki := x0) (C := "DeficitNet$Port") (T := T_P) (N := 14) (ci := 4) (v := .ref (ad LX b 6 x0)) hx hb hts in_P hown hK hW (okX4 qx0) rfl rfl 12 (by decide) t_49 rfl d_P_dropFirst_23 ?_
    refine lv_iconst (v := (0 : Int32)) hx hb d_P_dropFirst_26 (by decide) ?_
    refine lv_aload_n hx hb d_P_dropFirst_27 rfl (lv_at hl 0 rfl) ?_
    refine q_get (L := LX) (kc := 4) (ki := x0) (C := "DeficitNet$Port") (T := T_P) (N := 14) (ci := 4) (v := .int (z1.1 4 x0 9)) hx hb hts in_P hown hK hW (okX4 qx0) rfl rfl 9 (by decide) t_45 rfl d_P_dropFirst_28 ?_
    obtain ⟨_, u2, h⟩ := bnd h
    refine q_cpi (L := LX) (kc := 6) (ki := x0) hx hb (hml.trans hl.1.symm) hts hown t_393 acw hK hW hS (okX6 qx0) (fun _ => rfl) u2 (Nat.le_of_ble_eq_true rfl) (Nat.le_of_ble_eq_true rfl) d_P_dropFirst_31 (fun H locs z3 ez3 hW hS => ?_)
    have h := stM_n h ez3
    refine lv_aload_n hx hb d_P_dropFirst_34 rfl (lv_at hl 0 rfl) ?_
    refine lv_iconst (v := (0 : Int32)) hx hb d_P_dropFirst_35 (by decide) ?_
    obtain ⟨_, u4, h⟩ := bnd h
    refine q_put (L := LX) (kc := 4) (ki := x0) (C := "DeficitNet$Port") (T := T_P) (N := 14) (ci := 4) hx hb hts in_P ty_P tyok_P nm_P hown hK hW hS (okX4 qx0) rfl rfl 10 (by decide) t_46 rfl (bz_nar (bz_some u4)) (bz_fit (bz_some u4)) (Nat.le_of_ble_eq_true rfl) rfl d_P_dropFirst_36 (fun H locs z5 ez5 hW hS => ?_)
    have h := stM_n h ez5
    exact q_vret hx hb hr hlk hK hW hS h d_P_dropFirst_39
