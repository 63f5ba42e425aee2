set_option maxHeartbeats 4000000 in
set_option maxRecDepth 100000 in
theorem c_Y_isPort (l : Launch) (G : GG) (b : Nat) (x1 : Int32) (z : Mem) (r0 : Int32) (z0 : Mem) (h : dn_Y_isPort x1 z = some (r0, z0)) : MtW l y_Y_isPort b_Y_isPort 2 (some .boolean) rm_Y_isPort LY G b [.ref (ad LY b 0 0), .int x1] z (QI LY G b r0 z0) := by
  refine mtW_of (by decide) (Nat.le_of_ble_eq_true rfl) ?_
  intro p e s m args below meth c ls H locs C hW hS hl
  obtain ⟨hx, hb, hml, hr, hown, hts, hlk, hK⟩ := C
  have hl : lv_has ls 2 [(0, .ref (ad LY b 0 0)), (1, .int x1)] := hl
  unfold dn_Y_isPort at h
  refine lv_iload_n hx hb d_Y_isPort_0 rfl (lv_at hl 1 rfl) ?_
  refine lv_if_lt (tgt := 18) hx hb d_Y_isPort_1 (by decide) (fun hc => ?_) (fun hc => ?_)
  · have h := ite_t h hc
    refine lv_iconst (v := (0 : Int32)) hx hb d_Y_isPort_18 (by decide) ?_
    obtain ⟨_, u1, h⟩ := bnd h
    exact q_zret hx hb hr hlk hK hW hS (bz_some u1) h d_Y_isPort_19
  · have h := ite_f h hc
    refine lv_iload_n hx hb d_Y_isPort_4 rfl (lv_at hl 1 rfl) ?_
    refine lv_iconst (v := (2 : Int32)) hx hb d_Y_isPort_5 (by decide) ?_
    refine lv_aload_n hx hb d_Y_isPort_6 rfl (lv_at hl 0 rfl) ?_
    refine q_get (L := LY) (kc := 0) (ki := 0) (C := "DeficitNetModel") (T := T_Y) (N := 40) (ci := 5) (v := .int (z.1 0 0 0)) hx hb hts in_Y hown hK hW okY0 rfl rfl 0 (by decide) t_480 rfl d_Y_isPort_7 ?_
    refine lv_imul hx hb d_Y_isPort_10 ?_
    refine lv_icmp_ge (tgt := 18) hx hb d_Y_isPort_11 (by decide) (fun hc => ?_) (fun hc => ?_)
    · have h := ite_t h hc
      refine lv_iconst (v := (0 : Int32)) hx hb d_Y_isPort_18 (by decide) ?_
      obtain ⟨_, u2, h⟩ := bnd h
      exact q_zret hx hb hr hlk hK hW hS (bz_some u2) h d_Y_isPort_19
    · have h := ite_f h hc
      refine lv_iconst (v := (1 : Int32)) hx hb d_Y_isPort_14 (by decide) ?_
      refine lv_goto (tgt := 19) hx hb d_Y_isPort_15 (by decide) ?_
      obtain ⟨_, u3, h⟩ := bnd h
      exact q_zret hx hb hr hlk hK hW hS (bz_some u3) h d_Y_isPort_19
set_option maxHeartbeats 4000000 in
set_option maxRecDepth 100000 in
theorem c_Y_isFlow (l : Launch) (G : GG) (b : Nat) (x1 : Int32) (z : Mem) (r0 : Int32) (z0 : Mem) (h : dn_Y_isFlow x1 z = some (r0, z0)) : MtW l y_Y_isFlow b_Y_isFlow 2 (some .boolean) rm_Y_isFlow LY G b [.ref (ad LY b 0 0), .int x1] z (QI LY G b r0 z0) := by
  refine mtW_of (by decide) (Nat.le_of_ble_eq_true rfl) ?_
  intro p e s m args below meth c ls H locs C hW hS hl
  obtain ⟨hx, hb, hml, hr, hown, hts, hlk, hK⟩ := C
  have hl : lv_has ls 2 [(0, .ref (ad LY b 0 0)), (1, .int x1)] := hl
  unfold dn_Y_isFlow at h
  refine lv_iload_n hx hb d_Y_isFlow_0 rfl (lv_at hl 1 rfl) ?_
  refine lv_if_lt (tgt := 16) hx hb d_Y_isFlow_1 (by decide) (fun hc => ?_) (fun hc => ?_)
  · have h := ite_t h hc
    refine lv_iconst (v := (0 : Int32)) hx hb d_Y_isFlow_16 (by decide) ?_
    obtain ⟨_, u1, h⟩ := bnd h
    exact q_zret hx hb hr hlk hK hW hS (bz_some u1) h d_Y_isFlow_17
  · have h := ite_f h hc
    refine lv_iload_n hx hb d_Y_isFlow_4 rfl (lv_at hl 1 rfl) ?_
    refine lv_aload_n hx hb d_Y_isFlow_5 rfl (lv_at hl 0 rfl) ?_
    refine q_get (L := LY) (kc := 0) (ki := 0) (C := "DeficitNetModel") (T := T_Y) (N := 40) (ci := 5) (v := .int (z.1 0 0 9)) hx hb hts in_Y hown hK hW okY0 rfl rfl 9 (by decide) t_489 rfl d_Y_isFlow_6 ?_
    refine lv_icmp_ge (tgt := 16) hx hb d_Y_isFlow_9 (by decide) (fun hc => ?_) (fun hc => ?_)
    · have h := ite_t h hc
      refine lv_iconst (v := (0 : Int32)) hx hb d_Y_isFlow_16 (by decide) ?_
      obtain ⟨_, u2, h⟩ := bnd h
      exact q_zret hx hb hr hlk hK hW hS (bz_some u2) h d_Y_isFlow_17
    · have h := ite_f h hc
      refine lv_iconst (v := (1 : Int32)) hx hb d_Y_isFlow_12 (by decide) ?_
      refine lv_goto (tgt := 17) hx hb d_Y_isFlow_13 (by decide) ?_
      obtain ⟨_, u3, h⟩ := bnd h
      exact q_zret hx hb hr hlk hK hW hS (bz_some u3) h d_Y_isFlow_17
set_option maxHeartbeats 4000000 in
set_option maxRecDepth 100000 in
theorem c_Y_shape (l : Launch) (G : GG) (b : Nat) (x1 : Int32) (x2 : Int32) (x3 : Int32) (z : Mem) (r0 : Int32) (z0 : Mem) (h : dn_Y_shape x1 x2 x3 z = some (r0, z0)) : MtW l y_Y_shape b_Y_shape 4 (some .boolean) rm_Y_shape LY G b [.ref (ad LY b 0 0), .int x1, .int x2, .int x3] z (QI LY G b r0 z0) := by
  refine mtW_of (by decide) (Nat.le_of_ble_eq_true rfl) ?_
  intro p e s m args below meth c ls H locs C hW hS hl
  obtain ⟨hx, hb, hml, hr, hown, hts, hlk, hK⟩ := C
  have hl : lv_has ls 4 [(0, .ref (ad LY b 0 0)), (1, .int x1), (2, .int x2), (3, .int x3)] := hl
  unfold dn_Y_shape at h
  refine lv_aload_n hx hb d_Y_shape_0 rfl (lv_at hl 0 rfl) ?_
  refine q_get (L := LY) (kc := 0) (ki := 0) (C := "DeficitNetModel") (T := T_Y) (N := 40) (ci := 5) (v := .int (z.1 0 0 35)) hx hb hts in_Y hown hK hW okY0 rfl rfl 35 (by decide) t_515 rfl d_Y_shape_1 ?_
  refine lv_if_ne (tgt := 35) hx hb d_Y_shape_4 (by decide) (fun hc => ?_) (fun hc => ?_)
  · have h := ite_f h hc
    refine lv_iconst (v := (0 : Int32)) hx hb d_Y_shape_35 (by decide) ?_
    obtain ⟨_, u1, h⟩ := bnd h
    exact q_zret hx hb hr hlk hK hW hS (bz_some u1) h d_Y_shape_36
  · have h := ite_t h hc
    refine lv_aload_n hx hb d_Y_shape_7 rfl (lv_at hl 0 rfl) ?_
    refine lv_iload_n hx hb d_Y_shape_8 rfl (lv_at hl 1 rfl) ?_
    obtain ⟨⟨v2, z2⟩, er2, h⟩ := bnd h
    refine q_callVi (C := "DeficitNetModel") (As := [.int x1]) (rest := []) hx hb hml hown hts hK hW hS (c_Y_isPort l G b x1 z v2 z2 er2) f_Y_isPort t_617 ⟨rfl, rfl⟩ ⟨Nat.le_of_ble_eq_true rfl, Nat.le_of_ble_eq_true rfl⟩ (q_recv (L := LY) (kc := 0) (ki := 0) hK hW okY0 rfl rfl) rfl hl.1 rfl (Nat.le_of_ble_eq_true rfl) d_Y_shape_9 (fun H locs hW hS => ?_)
    refine lv_if_eq (tgt := 35) hx hb d_Y_shape_12 (by decide) (fun hc => ?_) (fun hc => ?_)
    · have h := ite_t h hc
      refine lv_iconst (v := (0 : Int32)) hx hb d_Y_shape_35 (by decide) ?_
      obtain ⟨_, u3, h⟩ := bnd h
      exact q_zret hx hb hr hlk hK hW hS (bz_some u3) h d_Y_shape_36
    · have h := ite_f h hc
      refine lv_iload_n hx hb d_Y_shape_15 rfl (lv_at hl 2 rfl) ?_
      refine lv_iconst (v := (1 : Int32)) hx hb d_Y_shape_16 (by decide) ?_
      refine lv_bipush (v := (16 : Int32)) hx hb d_Y_shape_17 (by decide) ?_
      obtain ⟨v4, ev4, h⟩ := bnd h
      refine q_callPi (As := [.int x2, .int (1 : Int32), .int (16 : Int32)]) (rest := []) hx hb hml hown hts hW hS (c_Y_within l x2 (1 : Int32) (16 : Int32) v4 ev4) f_Y_within t_610 ⟨rfl, rfl⟩ ⟨Nat.le_of_ble_eq_true rfl, Nat.le_of_ble_eq_true rfl⟩ rfl hl.1 rfl (Nat.le_of_ble_eq_true rfl) d_Y_shape_19 (fun H locs hW hS => ?_)
      refine lv_if_eq (tgt := 35) hx hb d_Y_shape_22 (by decide) (fun hc => ?_) (fun hc => ?_)
      · have h := ite_t h hc
        refine lv_iconst (v := (0 : Int32)) hx hb d_Y_shape_35 (by decide) ?_
        obtain ⟨_, u5, h⟩ := bnd h
        exact q_zret hx hb hr hlk hK hW hS (bz_some u5) h d_Y_shape_36
      · have h := ite_f h hc
        refine lv_iload_n hx hb d_Y_shape_25 rfl (lv_at hl 3 rfl) ?_
        refine lv_iconst (v := (1 : Int32)) hx hb d_Y_shape_26 (by decide) ?_
        refine lv_bipush (v := (8 : Int32)) hx hb d_Y_shape_27 (by decide) ?_
        obtain ⟨v6, ev6, h⟩ := bnd h
        refine q_callPi (As := [.int x3, .int (1 : Int32), .int (8 : Int32)]) (rest := []) hx hb hml hown hts hW hS (c_Y_within l x3 (1 : Int32) (8 : Int32) v6 ev6) f_Y_within t_610 ⟨rfl, rfl⟩ ⟨Nat.le_of_ble_eq_true rfl, Nat.le_of_ble_eq_true rfl⟩ rfl hl.1 rfl (Nat.le_of_ble_eq_true rfl) d_Y_shape_29 (fun H locs hW hS => ?_)
        refine lv_if_ne (tgt := 37) hx hb d_Y_shape_32 (by decide) (fun hc => ?_) (fun hc => ?_)
        · have h := ite_f h hc
          refine lv_aload_n hx hb d_Y_shape_37 rfl (lv_at hl 0 rfl) ?_
          refine q_get (L := LY) (kc := 0) (ki := 0) (C := "DeficitNetModel") (T := T_Y) (N := 40) (ci := 5) (v := .ref (ad LY b 6 0)) hx hb hts in_Y hown hK hW okY0 rfl rfl 6 (by decide) t_486 rfl d_Y_shape_38 ?_
          refine lv_iload_n hx hb d_Y_shape_41 rfl (lv_at hl 1 rfl) ?_
          refine lv_iload_n hx hb d_Y_shape_42 rfl (lv_at hl 2 rfl) ?_
          obtain ⟨j7, ej7, h⟩ := bnd h
          refine q_iast (L := LY) (kc := 6) (ki := 0) hx hb hK hW hS okY6 (fun _ => rfl) ej7 d_Y_shape_43 (fun H locs z8 ez8 hW hS => ?_)
          have h := stM_n h ez8
          refine lv_aload_n hx hb d_Y_shape_44 rfl (lv_at hl 0 rfl) ?_
          refine q_get (L := LY) (kc := 0) (ki := 0) (C := "DeficitNetModel") (T := T_Y) (N := 40) (ci := 5) (v := .ref (ad LY b 7 0)) hx hb hts in_Y hown hK hW okY0 rfl rfl 7 (by decide) t_487 rfl d_Y_shape_45 ?_
          refine lv_iload_n hx hb d_Y_shape_48 rfl (lv_at hl 1 rfl) ?_
          refine lv_iload_n hx hb d_Y_shape_49 rfl (lv_at hl 3 rfl) ?_
          obtain ⟨j9, ej9, h⟩ := bnd h
          refine q_iast (L := LY) (kc := 7) (ki := 0) hx hb hK hW hS okY7 (fun _ => rfl) ej9 d_Y_shape_50 (fun H locs z10 ez10 hW hS => ?_)
          have h := stM_n h ez10
          refine lv_iconst (v := (1 : Int32)) hx hb d_Y_shape_51 (by decide) ?_
          obtain ⟨_, u11, h⟩ := bnd h
          exact q_zret hx hb hr hlk hK hW hS (bz_some u11) h d_Y_shape_52
        · have h := ite_t h hc
          refine lv_iconst (v := (0 : Int32)) hx hb d_Y_shape_35 (by decide) ?_
          obtain ⟨_, u12, h⟩ := bnd h
          exact q_zret hx hb hr hlk hK hW hS (bz_some u12) h d_Y_shape_36
set_option maxHeartbeats 4000000 in
set_option maxRecDepth 100000 in
theorem w_Y_flow_183 {p : Program} {l : Launch} {e : Env} {s : State} {m : MethodId} {args : Array Value} {below : List Frame} {meth : Method} {c : Code} {G : GG} {b : Nat} {r0 : Int32} {z0 : Mem} (C : Cx y_Y_flow b_Y_flow 6 (some .int) p s m args meth c G) {k210 : Mem → Option (Int32 × Mem)} 
    (hk210 : ∀  (z : Mem) (ls : Array Slot) (H : Heap) (locs : List Loc), Wd LY G b z H → va_S (rgL LY b) s.heap H locs → lv_has ls 6 [(0, .ref (ad LY b 0 0))] → k210  z = some (r0, z0) → W p l e rm_Y_flow s m args below meth c H locs 0 0 (MQ below (QI LY G b r0 z0) args s 0 0 (rgL LY b)) (F0 m 210 ls [])) :
    ∀ (n : Nat) (x5 : Int32) (z : Mem) (ls : Array Slot) (H : Heap) (locs : List Loc), Wd LY G b z H → va_S (rgL LY b) s.heap H locs → lv_has ls 6 [(0, .ref (ad LY b 0 0)), (5, .int x5)] → dn_Y_flow_183 k210 n x5 z = some (r0, z0) → W p l e rm_Y_flow s m args below meth c H locs 0 0 (MQ below (QI LY G b r0 z0) args s 0 0 (rgL LY b)) (F0 m 183 ls []) := by
  obtain ⟨hx, hb, hml, hr, hown, hts, hlk, hK⟩ := C
  intro n
  induction n with
  | zero =>
    intro x5 z ls H locs  hW hS hl h
    cases h
  | succ n ih =>
    intro x5 z ls H locs  hW hS hl h
    rw [dn_Y_flow_183] at h
    refine lv_iload hx hb d_Y_flow_183 (lv_at hl 1 rfl) ?_
    refine lv_iconst (v := (4 : Int32)) hx hb d_Y_flow_185 (by decide) ?_
    refine lv_icmp_ge (tgt := 210) hx hb d_Y_flow_186 (by decide) (fun hc => ?_) (fun hc => ?_)
    · have h := ite_t h hc
      exact hk210  z ls H locs  hW hS (lv_sub hl [0] rfl) h
    · have h := ite_f h hc
      refine lv_aload_n hx hb d_Y_flow_189 rfl (lv_at hl 0 rfl) ?_
      refine q_get (L := LY) (kc := 0) (ki := 0) (C := "DeficitNetModel") (T := T_Y) (N := 40) (ci := 5) (v := .ref (ad LY b 23 0)) hx hb hts in_Y hown hK hW okY0 rfl rfl 24 (by decide) t_504 rfl d_Y_flow_190 ?_
      refine lv_iconst (v := (4 : Int32)) hx hb d_Y_flow_193 (by decide) ?_
      refine lv_aload_n hx hb d_Y_flow_194 rfl (lv_at hl 0 rfl) ?_
      refine q_get (L := LY) (kc := 0) (ki := 0) (C := "DeficitNetModel") (T := T_Y) (N := 40) (ci := 5) (v := .int (z.1 0 0 9)) hx hb hts in_Y hown hK hW okY0 rfl rfl 9 (by decide) t_489 rfl d_Y_flow_195 ?_
      refine lv_imul hx hb d_Y_flow_198 ?_
      refine lv_iload hx hb d_Y_flow_199 (lv_at hl 1 rfl) ?_
      refine lv_iadd hx hb d_Y_flow_201 ?_
      refine lv_iconst (v := (0 : Int32)) hx hb d_Y_flow_202 (by decide) ?_
      obtain ⟨j29, ej29, h⟩ := bnd h
      refine q_iast (L := LY) (kc := 23) (ki := 0) hx hb hK hW hS okY23 (fun _ => rfl) ej29 d_Y_flow_203 (fun H locs z30 ez30 hW hS => ?_)
      have h := stM_n h ez30
      refine lv_iinc (k := 1) (v := (x5 + (1 : Int32))) hx hb d_Y_flow_204 hl rfl rfl (by decide) rfl (fun ls hl => ?_)
      have hl : lv_has ls 6 [(5, .int (x5 + (1 : Int32))), (0, .ref (ad LY b 0 0))] := hl
      refine lv_goto (tgt := 183) hx hb d_Y_flow_207 (by decide) ?_
      exact ih (x5 + (1 : Int32)) z30 ls H locs  hW hS (lv_sub hl [1, 0] rfl) h
set_option maxHeartbeats 4000000 in
set_option maxRecDepth 100000 in
theorem c_Y_flow (l : Launch) (G : GG) (b : Nat) (x1 : Int32) (x2 : Int32) (x3 : Int32) (x4 : Int32) (z : Mem) (r0 : Int32) (z0 : Mem) (h : dn_Y_flow x1 x2 x3 x4 z = some (r0, z0)) : MtW l y_Y_flow b_Y_flow 6 (some .int) rm_Y_flow LY G b [.ref (ad LY b 0 0), .int x1, .int x2, .int x3, .int x4] z (QI LY G b r0 z0) := by
  refine mtW_of (by decide) (Nat.le_of_ble_eq_true rfl) ?_
  intro p e s m args below meth c ls H locs C hW hS hl
  obtain ⟨hx, hb, hml, hr, hown, hts, hlk, hK⟩ := C
  have hl : lv_has ls 6 [(0, .ref (ad LY b 0 0)), (1, .int x1), (2, .int x2), (3, .int x3), (4, .int x4)] := hl
  unfold dn_Y_flow at h
  refine lv_aload_n hx hb d_Y_flow_0 rfl (lv_at hl 0 rfl) ?_
  refine q_get (L := LY) (kc := 0) (ki := 0) (C := "DeficitNetModel") (T := T_Y) (N := 40) (ci := 5) (v := .int (z.1 0 0 35)) hx hb hts in_Y hown hK hW okY0 rfl rfl 35 (by decide) t_515 rfl d_Y_flow_1 ?_
  refine lv_if_ne (tgt := 56) hx hb d_Y_flow_4 (by decide) (fun hc => ?_) (fun hc => ?_)
  · have h := ite_f h hc
    refine lv_iconst (v := (-1 : Int32)) hx hb d_Y_flow_56 (by decide) ?_
    exact q_iret hx hb hr hlk hK hW hS h d_Y_flow_57
  · have h := ite_t h hc
    refine lv_aload_n hx hb d_Y_flow_7 rfl (lv_at hl 0 rfl) ?_
    refine q_get (L := LY) (kc := 0) (ki := 0) (C := "DeficitNetModel") (T := T_Y) (N := 40) (ci := 5) (v := .int (z.1 0 0 9)) hx hb hts in_Y hown hK hW okY0 rfl rfl 9 (by decide) t_489 rfl d_Y_flow_8 ?_
    refine lv_bipush (v := (6 : Int32)) hx hb d_Y_flow_11 (by decide) ?_
    refine lv_icmp_eq (tgt := 56) hx hb d_Y_flow_13 (by decide) (fun hc => ?_) (fun hc => ?_)
    · have h := ite_t h hc
      refine lv_iconst (v := (-1 : Int32)) hx hb d_Y_flow_56 (by decide) ?_
      exact q_iret hx hb hr hlk hK hW hS h d_Y_flow_57
    · have h := ite_f h hc
      refine lv_iload_n hx hb d_Y_flow_16 rfl (lv_at hl 1 rfl) ?_
      obtain ⟨v1, ev1, h⟩ := bnd h
      refine q_callPi (As := [.int x1]) (rest := []) hx hb hml hown hts hW hS (c_Y_node l x1 v1 ev1) f_Y_node t_607 ⟨rfl, rfl⟩ ⟨Nat.le_of_ble_eq_true rfl, Nat.le_of_ble_eq_true rfl⟩ rfl hl.1 rfl (Nat.le_of_ble_eq_true rfl) d_Y_flow_17 (fun H locs hW hS => ?_)
      refine lv_if_eq (tgt := 56) hx hb d_Y_flow_20 (by decide) (fun hc => ?_) (fun hc => ?_)
      · have h := ite_t h hc
        refine lv_iconst (v := (-1 : Int32)) hx hb d_Y_flow_56 (by decide) ?_
        exact q_iret hx hb hr hlk hK hW hS h d_Y_flow_57
      · have h := ite_f h hc
        refine lv_iload_n hx hb d_Y_flow_23 rfl (lv_at hl 2 rfl) ?_
        obtain ⟨v2, ev2, h⟩ := bnd h
        refine q_callPi (As := [.int x2]) (rest := []) hx hb hml hown hts hW hS (c_Y_node l x2 v2 ev2) f_Y_node t_607 ⟨rfl, rfl⟩ ⟨Nat.le_of_ble_eq_true rfl, Nat.le_of_ble_eq_true rfl⟩ rfl hl.1 rfl (Nat.le_of_ble_eq_true rfl) d_Y_flow_24 (fun H locs hW hS => ?_)
        refine lv_if_eq (tgt := 56) hx hb d_Y_flow_27 (by decide) (fun hc => ?_) (fun hc => ?_)
        · have h := ite_t h hc
          refine lv_iconst (v := (-1 : Int32)) hx hb d_Y_flow_56 (by decide) ?_
          exact q_iret hx hb hr hlk hK hW hS h d_Y_flow_57
        · have h := ite_f h hc
          refine lv_iload_n hx hb d_Y_flow_30 rfl (lv_at hl 1 rfl) ?_
          refine lv_iload_n hx hb d_Y_flow_31 rfl (lv_at hl 2 rfl) ?_
          refine lv_icmp_eq (tgt := 56) hx hb d_Y_flow_32 (by decide) (fun hc => ?_) (fun hc => ?_)
          · have h := ite_t h hc
            refine lv_iconst (v := (-1 : Int32)) hx hb d_Y_flow_56 (by decide) ?_
            exact q_iret hx hb hr hlk hK hW hS h d_Y_flow_57
          · have h := ite_f h hc
            refine lv_iload_n hx hb d_Y_flow_35 rfl (lv_at hl 3 rfl) ?_
            refine lv_iconst (v := (1 : Int32)) hx hb d_Y_flow_36 (by decide) ?_
            refine lv_bipush (v := (100 : Int32)) hx hb d_Y_flow_37 (by decide) ?_
            obtain ⟨v3, ev3, h⟩ := bnd h
            refine q_callPi (As := [.int x3, .int (1 : Int32), .int (100 : Int32)]) (rest := []) hx hb hml hown hts hW hS (c_Y_within l x3 (1 : Int32) (100 : Int32) v3 ev3) f_Y_within t_610 ⟨rfl, rfl⟩ ⟨Nat.le_of_ble_eq_true rfl, Nat.le_of_ble_eq_true rfl⟩ rfl hl.1 rfl (Nat.le_of_ble_eq_true rfl) d_Y_flow_39 (fun H locs hW hS => ?_)
            refine lv_if_eq (tgt := 56) hx hb d_Y_flow_42 (by decide) (fun hc => ?_) (fun hc => ?_)
            · have h := ite_t h hc
              refine lv_iconst (v := (-1 : Int32)) hx hb d_Y_flow_56 (by decide) ?_
              exact q_iret hx hb hr hlk hK hW hS h d_Y_flow_57
            · have h := ite_f h hc
              refine lv_iload hx hb d_Y_flow_45 (lv_at hl 4 rfl) ?_
              refine lv_iconst (v := (1 : Int32)) hx hb d_Y_flow_47 (by decide) ?_
              refine lv_bipush (v := (8 : Int32)) hx hb d_Y_flow_48 (by decide) ?_
              obtain ⟨v4, ev4, h⟩ := bnd h
              refine q_callPi (As := [.int x4, .int (1 : Int32), .int (8 : Int32)]) (rest := []) hx hb hml hown hts hW hS (c_Y_within l x4 (1 : Int32) (8 : Int32) v4 ev4) f_Y_within t_610 ⟨rfl, rfl⟩ ⟨Nat.le_of_ble_eq_true rfl, Nat.le_of_ble_eq_true rfl⟩ rfl hl.1 rfl (Nat.le_of_ble_eq_true rfl) d_Y_flow_50 (fun H locs hW hS => ?_)
              refine lv_if_ne (tgt := 58) hx hb d_Y_flow_53 (by decide) (fun hc => ?_) (fun hc => ?_)
              · have h := ite_f h hc
                refine lv_aload_n hx hb d_Y_flow_58 rfl (lv_at hl 0 rfl) ?_
                refine q_get (L := LY) (kc := 0) (ki := 0) (C := "DeficitNetModel") (T := T_Y) (N := 40) (ci := 5) (v := .ref (ad LY b 9 0)) hx hb hts in_Y hown hK hW okY0 rfl rfl 10 (by decide) t_490 rfl d_Y_flow_59 ?_
                refine lv_aload_n hx hb d_Y_flow_62 rfl (lv_at hl 0 rfl) ?_
                refine q_get (L := LY) (kc := 0) (ki := 0) (C := "DeficitNetModel") (T := T_Y) (N := 40) (ci := 5) (v := .int (z.1 0 0 9)) hx hb hts in_Y hown hK hW okY0 rfl rfl 9 (by decide) t_489 rfl d_Y_flow_63 ?_
                refine lv_iload_n hx hb d_Y_flow_66 rfl (lv_at hl 1 rfl) ?_
                obtain ⟨j5, ej5, h⟩ := bnd h
                refine q_iast (L := LY) (kc := 9) (ki := 0) hx hb hK hW hS okY9 (fun _ => rfl) ej5 d_Y_flow_67 (fun H locs z6 ez6 hW hS => ?_)
                have h := stM_n h ez6
                refine lv_aload_n hx hb d_Y_flow_68 rfl (lv_at hl 0 rfl) ?_
                refine q_get (L := LY) (kc := 0) (ki := 0) (C := "DeficitNetModel") (T := T_Y) (N := 40) (ci := 5) (v := .ref (ad LY b 10 0)) hx hb hts in_Y hown hK hW okY0 rfl rfl 11 (by decide) t_491 rfl d_Y_flow_69 ?_
                refine lv_aload_n hx hb d_Y_flow_72 rfl (lv_at hl 0 rfl) ?_
                refine q_get (L := LY) (kc := 0) (ki := 0) (C := "DeficitNetModel") (T := T_Y) (N := 40) (ci := 5) (v := .int (z6.1 0 0 9)) hx hb hts in_Y hown hK hW okY0 rfl rfl 9 (by decide) t_489 rfl d_Y_flow_73 ?_
                refine lv_iload_n hx hb d_Y_flow_76 rfl (lv_at hl 2 rfl) ?_
                obtain ⟨j7, ej7, h⟩ := bnd h
                refine q_iast (L := LY) (kc := 10) (ki := 0) hx hb hK hW hS okY10 (fun _ => rfl) ej7 d_Y_flow_77 (fun H locs z8 ez8 hW hS => ?_)
                have h := stM_n h ez8
                refine lv_aload_n hx hb d_Y_flow_78 rfl (lv_at hl 0 rfl) ?_
                refine q_get (L := LY) (kc := 0) (ki := 0) (C := "DeficitNetModel") (T := T_Y) (N := 40) (ci := 5) (v := .ref (ad LY b 11 0)) hx hb hts in_Y hown hK hW okY0 rfl rfl 12 (by decide) t_492 rfl d_Y_flow_79 ?_
                refine lv_aload_n hx hb d_Y_flow_82 rfl (lv_at hl 0 rfl) ?_
                refine q_get (L := LY) (kc := 0) (ki := 0) (C := "DeficitNetModel") (T := T_Y) (N := 40) (ci := 5) (v := .int (z8.1 0 0 9)) hx hb hts in_Y hown hK hW okY0 rfl rfl 9 (by decide) t_489 rfl d_Y_flow_83 ?_
                refine lv_iload_n hx hb d_Y_flow_86 rfl (lv_at hl 3 rfl) ?_
                obtain ⟨j9, ej9, h⟩ := bnd h
                refine q_iast (L := LY) (kc := 11) (ki := 0) hx hb hK hW hS okY11 (fun _ => rfl) ej9 d_Y_flow_87 (fun H locs z10 ez10 hW hS => ?_)
                have h := stM_n h ez10
                refine lv_aload_n hx hb d_Y_flow_88 rfl (lv_at hl 0 rfl) ?_
                refine q_get (L := LY) (kc := 0) (ki := 0) (C := "DeficitNetModel") (T := T_Y) (N := 40) (ci := 5) (v := .ref (ad LY b 12 0)) hx hb hts in_Y hown hK hW okY0 rfl rfl 13 (by decide) t_493 rfl d_Y_flow_89 ?_
                refine lv_aload_n hx hb d_Y_flow_92 rfl (lv_at hl 0 rfl) ?_
                refine q_get (L := LY) (kc := 0) (ki := 0) (C := "DeficitNetModel") (T := T_Y) (N := 40) (ci := 5) (v := .int (z10.1 0 0 9)) hx hb hts in_Y hown hK hW okY0 rfl rfl 9 (by decide) t_489 rfl d_Y_flow_93 ?_
                refine lv_iload hx hb d_Y_flow_96 (lv_at hl 4 rfl) ?_
                obtain ⟨j11, ej11, h⟩ := bnd h
                refine q_iast (L := LY) (kc := 12) (ki := 0) hx hb hK hW hS okY12 (fun _ => rfl) ej11 d_Y_flow_98 (fun H locs z12 ez12 hW hS => ?_)
                have h := stM_n h ez12
                refine lv_aload_n hx hb d_Y_flow_99 rfl (lv_at hl 0 rfl) ?_
                refine q_get (L := LY) (kc := 0) (ki := 0) (C := "DeficitNetModel") (T := T_Y) (N := 40) (ci := 5) (v := .ref (ad LY b 13 0)) hx hb hts in_Y hown hK hW okY0 rfl rfl 14 (by decide) t_494 rfl d_Y_flow_100 ?_
                refine lv_aload_n hx hb d_Y_flow_103 rfl (lv_at hl 0 rfl) ?_
                refine q_get (L := LY) (kc := 0) (ki := 0) (C := "DeficitNetModel") (T := T_Y) (N := 40) (ci := 5) (v := .int (z12.1 0 0 9)) hx hb hts in_Y hown hK hW okY0 rfl rfl 9 (by decide) t_489 rfl d_Y_flow_104 ?_
                refine lv_iconst (v := (4 : Int32)) hx hb d_Y_flow_107 (by decide) ?_
                obtain ⟨j13, ej13, h⟩ := bnd h
                refine q_iast (L := LY) (kc := 13) (ki := 0) hx hb hK hW hS okY13 (fun _ => rfl) ej13 d_Y_flow_108 (fun H locs z14 ez14 hW hS => ?_)
                have h := stM_n h ez14
                refine lv_aload_n hx hb d_Y_flow_109 rfl (lv_at hl 0 rfl) ?_
                refine q_get (L := LY) (kc := 0) (ki := 0) (C := "DeficitNetModel") (T := T_Y) (N := 40) (ci := 5) (v := .ref (ad LY b 14 0)) hx hb hts in_Y hown hK hW okY0 rfl rfl 15 (by decide) t_495 rfl d_Y_flow_110 ?_
                refine lv_aload_n hx hb d_Y_flow_113 rfl (lv_at hl 0 rfl) ?_
                refine q_get (L := LY) (kc := 0) (ki := 0) (C := "DeficitNetModel") (T := T_Y) (N := 40) (ci := 5) (v := .int (z14.1 0 0 9)) hx hb hts in_Y hown hK hW okY0 rfl rfl 9 (by decide) t_489 rfl d_Y_flow_114 ?_
                refine lv_bipush (v := (100 : Int32)) hx hb d_Y_flow_117 (by decide) ?_
                obtain ⟨j15, ej15, h⟩ := bnd h
                refine q_iast (L := LY) (kc := 14) (ki := 0) hx hb hK hW hS okY14 (fun _ => rfl) ej15 d_Y_flow_119 (fun H locs z16 ez16 hW hS => ?_)
                have h := stM_n h ez16
                refine lv_aload_n hx hb d_Y_flow_120 rfl (lv_at hl 0 rfl) ?_
                refine q_get (L := LY) (kc := 0) (ki := 0) (C := "DeficitNetModel") (T := T_Y) (N := 40) (ci := 5) (v := .ref (ad LY b 15 0)) hx hb hts in_Y hown hK hW okY0 rfl rfl 16 (by decide) t_496 rfl d_Y_flow_121 ?_
                refine lv_aload_n hx hb d_Y_flow_124 rfl (lv_at hl 0 rfl) ?_
                refine q_get (L := LY) (kc := 0) (ki := 0) (C := "DeficitNetModel") (T := T_Y) (N := 40) (ci := 5) (v := .int (z16.1 0 0 9)) hx hb hts in_Y hown hK hW okY0 rfl rfl 9 (by decide) t_489 rfl d_Y_flow_125 ?_
                refine lv_iconst (v := (0 : Int32)) hx hb d_Y_flow_128 (by decide) ?_
                obtain ⟨j17, ej17, h⟩ := bnd h
                refine q_iast (L := LY) (kc := 15) (ki := 0) hx hb hK hW hS okY15 (fun _ => rfl) ej17 d_Y_flow_129 (fun H locs z18 ez18 hW hS => ?_)
                have h := stM_n h ez18
                refine lv_aload_n hx hb d_Y_flow_130 rfl (lv_at hl 0 rfl) ?_
                refine q_get (L := LY) (kc := 0) (ki := 0) (C := "DeficitNetModel") (T := T_Y) (N := 40) (ci := 5) (v := .ref (ad LY b 16 0)) hx hb hts in_Y hown hK hW okY0 rfl rfl 17 (by decide) t_497 rfl d_Y_flow_131 ?_
                refine lv_aload_n hx hb d_Y_flow_134 rfl (lv_at hl 0 rfl) ?_
                refine q_get (L := LY) (kc := 0) (ki := 0) (C := "DeficitNetModel") (T := T_Y) (N := 40) (ci := 5) (v := .int (z18.1 0 0 9)) hx hb hts in_Y hown hK hW okY0 rfl rfl 9 (by decide) t_489 rfl d_Y_flow_135 ?_
                refine lv_iconst (v := (0 : Int32)) hx hb d_Y_flow_138 (by decide) ?_
                obtain ⟨j19, ej19, h⟩ := bnd h
                refine q_iast (L := LY) (kc := 16) (ki := 0) hx hb hK hW hS okY16 (fun _ => rfl) ej19 d_Y_flow_139 (fun H locs z20 ez20 hW hS => ?_)
                have h := stM_n h ez20
                refine lv_aload_n hx hb d_Y_flow_140 rfl (lv_at hl 0 rfl) ?_
                refine q_get (L := LY) (kc := 0) (ki := 0) (C := "DeficitNetModel") (T := T_Y) (N := 40) (ci := 5) (v := .ref (ad LY b 17 0)) hx hb hts in_Y hown hK hW okY0 rfl rfl 18 (by decide) t_498 rfl d_Y_flow_141 ?_
                refine lv_aload_n hx hb d_Y_flow_144 rfl (lv_at hl 0 rfl) ?_
                refine q_get (L := LY) (kc := 0) (ki := 0) (C := "DeficitNetModel") (T := T_Y) (N := 40) (ci := 5) (v := .int (z20.1 0 0 9)) hx hb hts in_Y hown hK hW okY0 rfl rfl 9 (by decide) t_489 rfl d_Y_flow_145 ?_
                refine lv_iconst (v := (0 : Int32)) hx hb d_Y_flow_148 (by decide) ?_
                obtain ⟨j21, ej21, h⟩ := bnd h
                refine q_iast (L := LY) (kc := 17) (ki := 0) hx hb hK hW hS okY17 (fun _ => rfl) ej21 d_Y_flow_149 (fun H locs z22 ez22 hW hS => ?_)
                have h := stM_n h ez22
                refine lv_aload_n hx hb d_Y_flow_150 rfl (lv_at hl 0 rfl) ?_
                refine q_get (L := LY) (kc := 0) (ki := 0) (C := "DeficitNetModel") (T := T_Y) (N := 40) (ci := 5) (v := .ref (ad LY b 18 0)) hx hb hts in_Y hown hK hW okY0 rfl rfl 19 (by decide) t_499 rfl d_Y_flow_151 ?_
                refine lv_aload_n hx hb d_Y_flow_154 rfl (lv_at hl 0 rfl) ?_
                refine q_get (L := LY) (kc := 0) (ki := 0) (C := "DeficitNetModel") (T := T_Y) (N := 40) (ci := 5) (v := .int (z22.1 0 0 9)) hx hb hts in_Y hown hK hW okY0 rfl rfl 9 (by decide) t_489 rfl d_Y_flow_155 ?_
                refine lv_iconst (v := (0 : Int32)) hx hb d_Y_flow_158 (by decide) ?_
                obtain ⟨j23, ej23, h⟩ := bnd h
                refine q_iast (L := LY) (kc := 18) (ki := 0) hx hb hK hW hS okY18 (fun _ => rfl) ej23 d_Y_flow_159 (fun H locs z24 ez24 hW hS => ?_)
                have h := stM_n h ez24
                refine lv_aload_n hx hb d_Y_flow_160 rfl (lv_at hl 0 rfl) ?_
                refine q_get (L := LY) (kc := 0) (ki := 0) (C := "DeficitNetModel") (T := T_Y) (N := 40) (ci := 5) (v := .ref (ad LY b 19 0)) hx hb hts in_Y hown hK hW okY0 rfl rfl 20 (by decide) t_500 rfl d_Y_flow_161 ?_
                refine lv_aload_n hx hb d_Y_flow_164 rfl (lv_at hl 0 rfl) ?_
                refine q_get (L := LY) (kc := 0) (ki := 0) (C := "DeficitNetModel") (T := T_Y) (N := 40) (ci := 5) (v := .int (z24.1 0 0 9)) hx hb hts in_Y hown hK hW okY0 rfl rfl 9 (by decide) t_489 rfl d_Y_flow_165 ?_
                refine lv_iconst (v := (-1 : Int32)) hx hb d_Y_flow_168 (by decide) ?_
                obtain ⟨j25, ej25, h⟩ := bnd h
                refine q_iast (L := LY) (kc := 19) (ki := 0) hx hb hK hW hS okY19 (fun _ => rfl) ej25 d_Y_flow_169 (fun H locs z26 ez26 hW hS => ?_)
                have h := stM_n h ez26
                refine lv_aload_n hx hb d_Y_flow_170 rfl (lv_at hl 0 rfl) ?_
                refine q_get (L := LY) (kc := 0) (ki := 0) (C := "DeficitNetModel") (T := T_Y) (N := 40) (ci := 5) (v := .ref (ad LY b 21 0)) hx hb hts in_Y hown hK hW okY0 rfl rfl 22 (by decide) t_502 rfl d_Y_flow_171 ?_
                refine lv_aload_n hx hb d_Y_flow_174 rfl (lv_at hl 0 rfl) ?_
                refine q_get (L := LY) (kc := 0) (ki := 0) (C := "DeficitNetModel") (T := T_Y) (N := 40) (ci := 5) (v := .int (z26.1 0 0 9)) hx hb hts in_Y hown hK hW okY0 rfl rfl 9 (by decide) t_489 rfl d_Y_flow_175 ?_
                refine lv_iconst (v := (-1 : Int32)) hx hb d_Y_flow_178 (by decide) ?_
                obtain ⟨j27, ej27, h⟩ := bnd h
                refine q_iast (L := LY) (kc := 21) (ki := 0) hx hb hK hW hS okY21 (fun _ => rfl) ej27 d_Y_flow_179 (fun H locs z28 ez28 hW hS => ?_)
                have h := stM_n h ez28
                refine lv_iconst (v := (0 : Int32)) hx hb d_Y_flow_180 (by decide) ?_
                refine lv_istore hx hb d_Y_flow_181 hl (by decide) rfl (fun ls hl => ?_)
                have hl : lv_has ls 6 [(5, .int (0 : Int32)), (0, .ref (ad LY b 0 0)), (1, .int x1), (2, .int x2), (3, .int x3), (4, .int x4)] := hl
                refine w_Y_flow_183 ⟨hx, hb, hml, hr, hown, hts, hlk, hK⟩ (fun z31 ls H locs  hW hS hl h => ?_) FU (0 : Int32) z28 ls H locs  hW hS (lv_sub hl [1, 0] rfl) h
                · refine lv_aload_n hx hb d_Y_flow_210 rfl (lv_at hl 0 rfl) ?_
                  refine lv_dup hx hb d_Y_flow_211 rfl ?_
                  refine q_get (L := LY) (kc := 0) (ki := 0) (C := "DeficitNetModel") (T := T_Y) (N := 40) (ci := 5) (v := .int (z31.1 0 0 9)) hx hb hts in_Y hown hK hW okY0 rfl rfl 9 (by decide) t_489 rfl d_Y_flow_212 ?_
                  refine lv_iconst (v := (1 : Int32)) hx hb d_Y_flow_215 (by decide) ?_
                  refine lv_iadd hx hb d_Y_flow_216 ?_
                  refine q_put (L := LY) (kc := 0) (ki := 0) (C := "DeficitNetModel") (T := T_Y) (N := 40) (ci := 5) hx hb hts in_Y ty_Y tyok_Y nm_Y hown hK hW hS okY0 rfl rfl 9 (by decide) t_489 rfl rfl rfl (Nat.le_of_ble_eq_true rfl) rfl d_Y_flow_217 (fun H locs z32 ez32 hW hS => ?_)
                  have h := stM_n h ez32
                  refine lv_aload_n hx hb d_Y_flow_220 rfl (lv_at hl 0 rfl) ?_
                  refine q_get (L := LY) (kc := 0) (ki := 0) (C := "DeficitNetModel") (T := T_Y) (N := 40) (ci := 5) (v := .int (z32.1 0 0 9)) hx hb hts in_Y hown hK hW okY0 rfl rfl 9 (by decide) t_489 rfl d_Y_flow_221 ?_
                  refine lv_iconst (v := (1 : Int32)) hx hb d_Y_flow_224 (by decide) ?_
                  refine lv_isub hx hb d_Y_flow_225 ?_
                  exact q_iret hx hb hr hlk hK hW hS h d_Y_flow_226
              · have h := ite_t h hc
                refine lv_iconst (v := (-1 : Int32)) hx hb d_Y_flow_56 (by decide) ?_
                exact q_iret hx hb hr hlk hK hW hS h d_Y_flow_57
set_option maxHeartbeats 4000000 in
set_option maxRecDepth 100000 in
theorem c_Y_tune (l : Launch) (G : GG) (b : Nat) (x1 : Int32) (x2 : Int32) (x3 : Int32) (x4 : Int32) (z : Mem) (r0 : Int32) (z0 : Mem) (h : dn_Y_tune x1 x2 x3 x4 z = some (r0, z0)) : MtW l y_Y_tune b_Y_tune 5 (some .boolean) rm_Y_tune LY G b [.ref (ad LY b 0 0), .int x1, .int x2, .int x3, .int x4] z (QI LY G b r0 z0) := by
  refine mtW_of (by decide) (Nat.le_of_ble_eq_true rfl) ?_
  intro p e s m args below meth c ls H locs C hW hS hl
  obtain ⟨hx, hb, hml, hr, hown, hts, hlk, hK⟩ := C
  have hl : lv_has ls 5 [(0, .ref (ad LY b 0 0)), (1, .int x1), (2, .int x2), (3, .int x3), (4, .int x4)] := hl
  unfold dn_Y_tune at h
  refine lv_aload_n hx hb d_Y_tune_0 rfl (lv_at hl 0 rfl) ?_
  refine q_get (L := LY) (kc := 0) (ki := 0) (C := "DeficitNetModel") (T := T_Y) (N := 40) (ci := 5) (v := .int (z.1 0 0 35)) hx hb hts in_Y hown hK hW okY0 rfl rfl 35 (by decide) t_515 rfl d_Y_tune_1 ?_
  refine lv_if_ne (tgt := 48) hx hb d_Y_tune_4 (by decide) (fun hc => ?_) (fun hc => ?_)
  · have h := ite_f h hc
    refine lv_iconst (v := (0 : Int32)) hx hb d_Y_tune_48 (by decide) ?_
    obtain ⟨_, u1, h⟩ := bnd h
    exact q_zret hx hb hr hlk hK hW hS (bz_some u1) h d_Y_tune_49
  · have h := ite_t h hc
    refine lv_aload_n hx hb d_Y_tune_7 rfl (lv_at hl 0 rfl) ?_
    refine lv_iload_n hx hb d_Y_tune_8 rfl (lv_at hl 1 rfl) ?_
    obtain ⟨⟨v2, z2⟩, er2, h⟩ := bnd h
    refine q_callVi (C := "DeficitNetModel") (As := [.int x1]) (rest := []) hx hb hml hown hts hK hW hS (c_Y_isFlow l G b x1 z v2 z2 er2) f_Y_isFlow t_629 ⟨rfl, rfl⟩ ⟨Nat.le_of_ble_eq_true rfl, Nat.le_of_ble_eq_true rfl⟩ (q_recv (L := LY) (kc := 0) (ki := 0) hK hW okY0 rfl rfl) rfl hl.1 rfl (Nat.le_of_ble_eq_true rfl) d_Y_tune_9 (fun H locs hW hS => ?_)
    refine lv_if_eq (tgt := 48) hx hb d_Y_tune_12 (by decide) (fun hc => ?_) (fun hc => ?_)
    · have h := ite_t h hc
      refine lv_iconst (v := (0 : Int32)) hx hb d_Y_tune_48 (by decide) ?_
      obtain ⟨_, u3, h⟩ := bnd h
      exact q_zret hx hb hr hlk hK hW hS (bz_some u3) h d_Y_tune_49
    · have h := ite_f h hc
      refine lv_iload_n hx hb d_Y_tune_15 rfl (lv_at hl 2 rfl) ?_
      refine lv_iconst (v := (1 : Int32)) hx hb d_Y_tune_16 (by decide) ?_
      refine lv_bipush (v := (8 : Int32)) hx hb d_Y_tune_17 (by decide) ?_
      obtain ⟨v4, ev4, h⟩ := bnd h
      refine q_callPi (As := [.int x2, .int (1 : Int32), .int (8 : Int32)]) (rest := []) hx hb hml hown hts hW hS (c_Y_within l x2 (1 : Int32) (8 : Int32) v4 ev4) f_Y_within t_610 ⟨rfl, rfl⟩ ⟨Nat.le_of_ble_eq_true rfl, Nat.le_of_ble_eq_true rfl⟩ rfl hl.1 rfl (Nat.le_of_ble_eq_true rfl) d_Y_tune_19 (fun H locs hW hS => ?_)
      refine lv_if_eq (tgt := 48) hx hb d_Y_tune_22 (by decide) (fun hc => ?_) (fun hc => ?_)
      · have h := ite_t h hc
        refine lv_iconst (v := (0 : Int32)) hx hb d_Y_tune_48 (by decide) ?_
        obtain ⟨_, u5, h⟩ := bnd h
        exact q_zret hx hb hr hlk hK hW hS (bz_some u5) h d_Y_tune_49
      · have h := ite_f h hc
        refine lv_iload_n hx hb d_Y_tune_25 rfl (lv_at hl 3 rfl) ?_
        refine lv_iconst (v := (1 : Int32)) hx hb d_Y_tune_26 (by decide) ?_
        refine lv_sipush (v := (200 : Int32)) hx hb d_Y_tune_27 (by decide) ?_
        obtain ⟨v6, ev6, h⟩ := bnd h
        refine q_callPi (As := [.int x3, .int (1 : Int32), .int (200 : Int32)]) (rest := []) hx hb hml hown hts hW hS (c_Y_within l x3 (1 : Int32) (200 : Int32) v6 ev6) f_Y_within t_610 ⟨rfl, rfl⟩ ⟨Nat.le_of_ble_eq_true rfl, Nat.le_of_ble_eq_true rfl⟩ rfl hl.1 rfl (Nat.le_of_ble_eq_true rfl) d_Y_tune_30 (fun H locs hW hS => ?_)
        refine lv_if_eq (tgt := 48) hx hb d_Y_tune_33 (by decide) (fun hc => ?_) (fun hc => ?_)
        · have h := ite_t h hc
          refine lv_iconst (v := (0 : Int32)) hx hb d_Y_tune_48 (by decide) ?_
          obtain ⟨_, u7, h⟩ := bnd h
          exact q_zret hx hb hr hlk hK hW hS (bz_some u7) h d_Y_tune_49
        · have h := ite_f h hc
          refine lv_iload hx hb d_Y_tune_36 (lv_at hl 4 rfl) ?_
          refine lv_iconst (v := (0 : Int32)) hx hb d_Y_tune_38 (by decide) ?_
          refine lv_sipush (v := (1000 : Int32)) hx hb d_Y_tune_39 (by decide) ?_
          obtain ⟨v8, ev8, h⟩ := bnd h
          refine q_callPi (As := [.int x4, .int (0 : Int32), .int (1000 : Int32)]) (rest := []) hx hb hml hown hts hW hS (c_Y_within l x4 (0 : Int32) (1000 : Int32) v8 ev8) f_Y_within t_610 ⟨rfl, rfl⟩ ⟨Nat.le_of_ble_eq_true rfl, Nat.le_of_ble_eq_true rfl⟩ rfl hl.1 rfl (Nat.le_of_ble_eq_true rfl) d_Y_tune_42 (fun H locs hW hS => ?_)
          refine lv_if_ne (tgt := 50) hx hb d_Y_tune_45 (by decide) (fun hc => ?_) (fun hc => ?_)
          · have h := ite_f h hc
            refine lv_aload_n hx hb d_Y_tune_50 rfl (lv_at hl 0 rfl) ?_
            refine q_get (L := LY) (kc := 0) (ki := 0) (C := "DeficitNetModel") (T := T_Y) (N := 40) (ci := 5) (v := .ref (ad LY b 13 0)) hx hb hts in_Y hown hK hW okY0 rfl rfl 14 (by decide) t_494 rfl d_Y_tune_51 ?_
            refine lv_iload_n hx hb d_Y_tune_54 rfl (lv_at hl 1 rfl) ?_
            refine lv_iload_n hx hb d_Y_tune_55 rfl (lv_at hl 2 rfl) ?_
            obtain ⟨j9, ej9, h⟩ := bnd h
            refine q_iast (L := LY) (kc := 13) (ki := 0) hx hb hK hW hS okY13 (fun _ => rfl) ej9 d_Y_tune_56 (fun H locs z10 ez10 hW hS => ?_)
            have h := stM_n h ez10
            refine lv_aload_n hx hb d_Y_tune_57 rfl (lv_at hl 0 rfl) ?_
            refine q_get (L := LY) (kc := 0) (ki := 0) (C := "DeficitNetModel") (T := T_Y) (N := 40) (ci := 5) (v := .ref (ad LY b 14 0)) hx hb hts in_Y hown hK hW okY0 rfl rfl 15 (by decide) t_495 rfl d_Y_tune_58 ?_
            refine lv_iload_n hx hb d_Y_tune_61 rfl (lv_at hl 1 rfl) ?_
            refine lv_iload_n hx hb d_Y_tune_62 rfl (lv_at hl 3 rfl) ?_
            obtain ⟨j11, ej11, h⟩ := bnd h
            refine q_iast (L := LY) (kc := 14) (ki := 0) hx hb hK hW hS okY14 (fun _ => rfl) ej11 d_Y_tune_63 (fun H locs z12 ez12 hW hS => ?_)
            have h := stM_n h ez12
            refine lv_aload_n hx hb d_Y_tune_64 rfl (lv_at hl 0 rfl) ?_
            refine q_get (L := LY) (kc := 0) (ki := 0) (C := "DeficitNetModel") (T := T_Y) (N := 40) (ci := 5) (v := .ref (ad LY b 15 0)) hx hb hts in_Y hown hK hW okY0 rfl rfl 16 (by decide) t_496 rfl d_Y_tune_65 ?_
            refine lv_iload_n hx hb d_Y_tune_68 rfl (lv_at hl 1 rfl) ?_
            refine lv_iload hx hb d_Y_tune_69 (lv_at hl 4 rfl) ?_
            obtain ⟨j13, ej13, h⟩ := bnd h
            refine q_iast (L := LY) (kc := 15) (ki := 0) hx hb hK hW hS okY15 (fun _ => rfl) ej13 d_Y_tune_71 (fun H locs z14 ez14 hW hS => ?_)
            have h := stM_n h ez14
            refine lv_iconst (v := (1 : Int32)) hx hb d_Y_tune_72 (by decide) ?_
            obtain ⟨_, u15, h⟩ := bnd h
            exact q_zret hx hb hr hlk hK hW hS (bz_some u15) h d_Y_tune_73
          · have h := ite_t h hc
            refine lv_iconst (v := (0 : Int32)) hx hb d_Y_tune_48 (by decide) ?_
            obtain ⟨_, u16, h⟩ := bnd h
            exact q_zret hx hb hr hlk hK hW hS (bz_some u16) h d_Y_tune_49
set_option maxHeartbeats 4000000 in
set_option maxRecDepth 100000 in
theorem c_Y_distance (l : Launch) (G : GG) (b : Nat) (x1 : Int32) (x2 : Int32) (z : Mem) (r0 : Int32) (z0 : Mem) (h : dn_Y_distance x1 x2 z = some (r0, z0)) : MtW l y_Y_distance b_Y_distance 3 (some .int) rm_Y_distance LY G b [.ref (ad LY b 0 0), .int x1, .int x2] z (QI LY G b r0 z0) := by
  refine mtW_of (by decide) (Nat.le_of_ble_eq_true rfl) ?_
  intro p e s m args below meth c ls H locs C hW hS hl
  obtain ⟨hx, hb, hml, hr, hown, hts, hlk, hK⟩ := C
  have hl : lv_has ls 3 [(0, .ref (ad LY b 0 0)), (1, .int x1), (2, .int x2)] := hl
  unfold dn_Y_distance at h
  refine lv_iload_n hx hb d_Y_distance_0 rfl (lv_at hl 1 rfl) ?_
  obtain ⟨v1, ev1, h⟩ := bnd h
  refine q_callPi (As := [.int x1]) (rest := []) hx hb hml hown hts hW hS (c_Y_node l x1 v1 ev1) f_Y_node t_607 ⟨rfl, rfl⟩ ⟨Nat.le_of_ble_eq_true rfl, Nat.le_of_ble_eq_true rfl⟩ rfl hl.1 rfl (Nat.le_of_ble_eq_true rfl) d_Y_distance_1 (fun H locs hW hS => ?_)
  refine lv_if_eq (tgt := 30) hx hb d_Y_distance_4 (by decide) (fun hc => ?_) (fun hc => ?_)
  · have h := ite_t h hc
    refine lv_iconst (v := (-1 : Int32)) hx hb d_Y_distance_30 (by decide) ?_
    refine lv_goto (tgt := 45) hx hb d_Y_distance_31 (by decide) ?_
    exact q_iret hx hb hr hlk hK hW hS h d_Y_distance_45
  · have h := ite_f h hc
    refine lv_iload_n hx hb d_Y_distance_7 rfl (lv_at hl 2 rfl) ?_
    obtain ⟨v2, ev2, h⟩ := bnd h
    refine q_callPi (As := [.int x2]) (rest := []) hx hb hml hown hts hW hS (c_Y_node l x2 v2 ev2) f_Y_node t_607 ⟨rfl, rfl⟩ ⟨Nat.le_of_ble_eq_true rfl, Nat.le_of_ble_eq_true rfl⟩ rfl hl.1 rfl (Nat.le_of_ble_eq_true rfl) d_Y_distance_8 (fun H locs hW hS => ?_)
    refine lv_if_eq (tgt := 30) hx hb d_Y_distance_11 (by decide) (fun hc => ?_) (fun hc => ?_)
    · have h := ite_t h hc
      refine lv_iconst (v := (-1 : Int32)) hx hb d_Y_distance_30 (by decide) ?_
      refine lv_goto (tgt := 45) hx hb d_Y_distance_31 (by decide) ?_
      exact q_iret hx hb hr hlk hK hW hS h d_Y_distance_45
    · have h := ite_f h hc
      refine lv_aload_n hx hb d_Y_distance_14 rfl (lv_at hl 0 rfl) ?_
      refine q_get (L := LY) (kc := 0) (ki := 0) (C := "DeficitNetModel") (T := T_Y) (N := 40) (ci := 5) (v := .ref (ad LY b 8 0)) hx hb hts in_Y hown hK hW okY0 rfl rfl 8 (by decide) t_488 rfl d_Y_distance_15 ?_
      refine lv_bipush (v := (8 : Int32)) hx hb d_Y_distance_18 (by decide) ?_
      refine lv_iload_n hx hb d_Y_distance_20 rfl (lv_at hl 1 rfl) ?_
      refine lv_imul hx hb d_Y_distance_21 ?_
      refine lv_iload_n hx hb d_Y_distance_22 rfl (lv_at hl 2 rfl) ?_
      refine lv_iadd hx hb d_Y_distance_23 ?_
      obtain ⟨j3, ej3, h⟩ := bnd h
      refine q_iald (L := LY) (kc := 8) (ki := 0) hx hb hK hW okY8 rfl ej3 d_Y_distance_24 ?_
      refine lv_ldc (v := (1000000 : Int32)) hx hb hown (hts _ t_476) d_Y_distance_25 ?_
      refine lv_icmp_lt (tgt := 34) hx hb d_Y_distance_27 (by decide) (fun hc => ?_) (fun hc => ?_)
      · have h := ite_t h hc
        refine lv_aload_n hx hb d_Y_distance_34 rfl (lv_at hl 0 rfl) ?_
        refine q_get (L := LY) (kc := 0) (ki := 0) (C := "DeficitNetModel") (T := T_Y) (N := 40) (ci := 5) (v := .ref (ad LY b 8 0)) hx hb hts in_Y hown hK hW okY0 rfl rfl 8 (by decide) t_488 rfl d_Y_distance_35 ?_
        refine lv_bipush (v := (8 : Int32)) hx hb d_Y_distance_38 (by decide) ?_
        refine lv_iload_n hx hb d_Y_distance_40 rfl (lv_at hl 1 rfl) ?_
        refine lv_imul hx hb d_Y_distance_41 ?_
        refine lv_iload_n hx hb d_Y_distance_42 rfl (lv_at hl 2 rfl) ?_
        refine lv_iadd hx hb d_Y_distance_43 ?_
        obtain ⟨j4, ej4, h⟩ := bnd h
        refine q_iald (L := LY) (kc := 8) (ki := 0) hx hb hK hW okY8 rfl ej4 d_Y_distance_44 ?_
        exact q_iret hx hb hr hlk hK hW hS h d_Y_distance_45
      · have h := ite_f h hc
        refine lv_iconst (v := (-1 : Int32)) hx hb d_Y_distance_30 (by decide) ?_
        refine lv_goto (tgt := 45) hx hb d_Y_distance_31 (by decide) ?_
        exact q_iret hx hb hr hlk hK hW hS h d_Y_distance_45
set_option maxHeartbeats 4000000 in
set_option maxRecDepth 100000 in
theorem c_Y_at (l : Launch) (G : GG) (b : Nat) (x1 : Int32) (z : Mem) (r0 : Int32) (z0 : Mem) (h : dn_Y_at x1 z = some (r0, z0)) : MtW l y_Y_at b_Y_at 2 (some .int) rm_Y_at LY G b [.ref (ad LY b 0 0), .int x1] z (QI LY G b r0 z0) := by
  refine mtW_of (by decide) (Nat.le_of_ble_eq_true rfl) ?_
  intro p e s m args below meth c ls H locs C hW hS hl
  obtain ⟨hx, hb, hml, hr, hown, hts, hlk, hK⟩ := C
  have hl : lv_has ls 2 [(0, .ref (ad LY b 0 0)), (1, .int x1)] := hl
  unfold dn_Y_at at h
  refine lv_iload_n hx hb d_Y_at_0 rfl (lv_at hl 1 rfl) ?_
  refine lv_iconst (v := (2 : Int32)) hx hb d_Y_at_1 (by decide) ?_
  refine lv_irem hx hb d_Y_at_2 (by decide) ?_
  refine lv_if_ne (tgt := 17) hx hb d_Y_at_3 (by decide) (fun hc => ?_) (fun hc => ?_)
  · have h := ite_f h hc
    refine lv_aload_n hx hb d_Y_at_17 rfl (lv_at hl 0 rfl) ?_
    refine q_get (L := LY) (kc := 0) (ki := 0) (C := "DeficitNetModel") (T := T_Y) (N := 40) (ci := 5) (v := .ref (ad LY b 2 0)) hx hb hts in_Y hown hK hW okY0 rfl rfl 2 (by decide) t_482 rfl d_Y_at_18 ?_
    refine lv_iload_n hx hb d_Y_at_21 rfl (lv_at hl 1 rfl) ?_
    refine lv_iconst (v := (2 : Int32)) hx hb d_Y_at_22 (by decide) ?_
    refine lv_idiv hx hb d_Y_at_23 (by decide) ?_
    obtain ⟨j1, ej1, h⟩ := bnd h
    refine q_iald (L := LY) (kc := 2) (ki := 0) hx hb hK hW okY2 rfl ej1 d_Y_at_24 ?_
    exact q_iret hx hb hr hlk hK hW hS h d_Y_at_25
  · have h := ite_t h hc
    refine lv_aload_n hx hb d_Y_at_6 rfl (lv_at hl 0 rfl) ?_
    refine q_get (L := LY) (kc := 0) (ki := 0) (C := "DeficitNetModel") (T := T_Y) (N := 40) (ci := 5) (v := .ref (ad LY b 1 0)) hx hb hts in_Y hown hK hW okY0 rfl rfl 1 (by decide) t_481 rfl d_Y_at_7 ?_
    refine lv_iload_n hx hb d_Y_at_10 rfl (lv_at hl 1 rfl) ?_
    refine lv_iconst (v := (2 : Int32)) hx hb d_Y_at_11 (by decide) ?_
    refine lv_idiv hx hb d_Y_at_12 (by decide) ?_
    obtain ⟨j2, ej2, h⟩ := bnd h
    refine q_iald (L := LY) (kc := 1) (ki := 0) hx hb hK hW okY1 rfl ej2 d_Y_at_13 ?_
    refine lv_goto (tgt := 25) hx hb d_Y_at_14 (by decide) ?_
    exact q_iret hx hb hr hlk hK hW hS h d_Y_at_25
set_option maxHeartbeats 4000000 in
set_option maxRecDepth 100000 in
theorem c_Y_leads (l : Launch) (G : GG) (b : Nat) (x1 : Int32) (z : Mem) (r0 : Int32) (z0 : Mem) (h : dn_Y_leads x1 z = some (r0, z0)) : MtW l y_Y_leads b_Y_leads 2 (some .int) rm_Y_leads LY G b [.ref (ad LY b 0 0), .int x1] z (QI LY G b r0 z0) := by
  refine mtW_of (by decide) (Nat.le_of_ble_eq_true rfl) ?_
  intro p e s m args below meth c ls H locs C hW hS hl
  obtain ⟨hx, hb, hml, hr, hown, hts, hlk, hK⟩ := C
  have hl : lv_has ls 2 [(0, .ref (ad LY b 0 0)), (1, .int x1)] := hl
  unfold dn_Y_leads at h
  refine lv_iload_n hx hb d_Y_leads_0 rfl (lv_at hl 1 rfl) ?_
  refine lv_iconst (v := (2 : Int32)) hx hb d_Y_leads_1 (by decide) ?_
  refine lv_irem hx hb d_Y_leads_2 (by decide) ?_
  refine lv_if_ne (tgt := 17) hx hb d_Y_leads_3 (by decide) (fun hc => ?_) (fun hc => ?_)
  · have h := ite_f h hc
    refine lv_aload_n hx hb d_Y_leads_17 rfl (lv_at hl 0 rfl) ?_
    refine q_get (L := LY) (kc := 0) (ki := 0) (C := "DeficitNetModel") (T := T_Y) (N := 40) (ci := 5) (v := .ref (ad LY b 1 0)) hx hb hts in_Y hown hK hW okY0 rfl rfl 1 (by decide) t_481 rfl d_Y_leads_18 ?_
    refine lv_iload_n hx hb d_Y_leads_21 rfl (lv_at hl 1 rfl) ?_
    refine lv_iconst (v := (2 : Int32)) hx hb d_Y_leads_22 (by decide) ?_
    refine lv_idiv hx hb d_Y_leads_23 (by decide) ?_
    obtain ⟨j1, ej1, h⟩ := bnd h
    refine q_iald (L := LY) (kc := 1) (ki := 0) hx hb hK hW okY1 rfl ej1 d_Y_leads_24 ?_
    exact q_iret hx hb hr hlk hK hW hS h d_Y_leads_25
  · have h := ite_t h hc
    refine lv_aload_n hx hb d_Y_leads_6 rfl (lv_at hl 0 rfl) ?_
    refine q_get (L := LY) (kc := 0) (ki := 0) (C := "DeficitNetModel") (T := T_Y) (N := 40) (ci := 5) (v := .ref (ad LY b 2 0)) hx hb hts in_Y hown hK hW okY0 rfl rfl 2 (by decide) t_482 rfl d_Y_leads_7 ?_
    refine lv_iload_n hx hb d_Y_leads_10 rfl (lv_at hl 1 rfl) ?_
    refine lv_iconst (v := (2 : Int32)) hx hb d_Y_leads_11 (by decide) ?_
    refine lv_idiv hx hb d_Y_leads_12 (by decide) ?_
    obtain ⟨j2, ej2, h⟩ := bnd h
    refine q_iald (L := LY) (kc := 2) (ki := 0) hx hb hK hW okY2 rfl ej2 d_Y_leads_13 ?_
    refine lv_goto (tgt := 25) hx hb d_Y_leads_14 (by decide) ?_
    exact q_iret hx hb hr hlk hK hW hS h d_Y_leads_25
set_option maxHeartbeats 4000000 in
set_option maxRecDepth 100000 in
theorem w_Y_way_19 {p : Program} {l : Launch} {e : Env} {s : State} {m : MethodId} {args : Array Value} {below : List Frame} {meth : Method} {c : Code} {G : GG} {b : Nat} {r0 : Int32} {z0 : Mem} (C : Cx y_Y_way b_Y_way 4 (some .int) p s m args meth c G) {k76 : Int32 → Mem → Option (Int32 × Mem)} {k84 : Mem → Option (Int32 × Mem)} 
    (hk76 : ∀ (x3 : Int32) (z : Mem) (ls : Array Slot) (H : Heap) (locs : List Loc), Wd LY G b z H → va_S (rgL LY b) s.heap H locs → lv_has ls 4 [(3, .int x3)] → k76 x3 z = some (r0, z0) → W p l e rm_Y_way s m args below meth c H locs 0 0 (MQ below (QI LY G b r0 z0) args s 0 0 (rgL LY b)) (F0 m 76 ls []))
    (hk84 : ∀  (z : Mem) (ls : Array Slot) (H : Heap) (locs : List Loc), Wd LY G b z H → va_S (rgL LY b) s.heap H locs → lv_has ls 4 [] → k84  z = some (r0, z0) → W p l e rm_Y_way s m args below meth c H locs 0 0 (MQ below (QI LY G b r0 z0) args s 0 0 (rgL LY b)) (F0 m 84 ls [])) :
    ∀ (n : Nat) (x1 : Int32) (x2 : Int32) (x3 : Int32) (z : Mem) (ls : Array Slot) (H : Heap) (locs : List Loc), Wd LY G b z H → va_S (rgL LY b) s.heap H locs → lv_has ls 4 [(0, .ref (ad LY b 0 0)), (1, .int x1), (2, .int x2), (3, .int x3)] → dn_Y_way_19 k76 k84 n x1 x2 x3 z = some (r0, z0) → W p l e rm_Y_way s m args below meth c H locs 0 0 (MQ below (QI LY G b r0 z0) args s 0 0 (rgL LY b)) (F0 m 19 ls []) := by
  obtain ⟨hx, hb, hml, hr, hown, hts, hlk, hK⟩ := C
  intro n
  induction n with
  | zero =>
    intro x1 x2 x3 z ls H locs  hW hS hl h
    cases h
  | succ n ih =>
    intro x1 x2 x3 z ls H locs  hW hS hl h
    rw [dn_Y_way_19] at h
    refine lv_iload_n hx hb d_Y_way_19 rfl (lv_at hl 3 rfl) ?_
    refine lv_iconst (v := (2 : Int32)) hx hb d_Y_way_20 (by decide) ?_
    refine lv_aload_n hx hb d_Y_way_21 rfl (lv_at hl 0 rfl) ?_
    refine q_get (L := LY) (kc := 0) (ki := 0) (C := "DeficitNetModel") (T := T_Y) (N := 40) (ci := 5) (v := .int (z.1 0 0 0)) hx hb hts in_Y hown hK hW okY0 rfl rfl 0 (by decide) t_480 rfl d_Y_way_22 ?_
    refine lv_imul hx hb d_Y_way_25 ?_
    refine lv_icmp_ge (tgt := 84) hx hb d_Y_way_26 (by decide) (fun hc => ?_) (fun hc => ?_)
    · have h := ite_t h hc
      exact hk84  z ls H locs  hW hS (lv_sub hl [] rfl) h
    · have h := ite_f h hc
      refine lv_aload_n hx hb d_Y_way_29 rfl (lv_at hl 0 rfl) ?_
      refine lv_iload_n hx hb d_Y_way_30 rfl (lv_at hl 3 rfl) ?_
      obtain ⟨⟨v2, z2⟩, er2, h⟩ := bnd h
      refine q_callVi (C := "DeficitNetModel") (As := [.int x3]) (rest := []) hx hb hml hown hts hK hW hS (c_Y_at l G b x3 z v2 z2 er2) f_Y_at t_642 ⟨rfl, rfl⟩ ⟨Nat.le_of_ble_eq_true rfl, Nat.le_of_ble_eq_true rfl⟩ (q_recv (L := LY) (kc := 0) (ki := 0) hK hW okY0 rfl rfl) rfl hl.1 rfl (Nat.le_of_ble_eq_true rfl) d_Y_way_31 (fun H locs hW hS => ?_)
      refine lv_iload_n hx hb d_Y_way_34 rfl (lv_at hl 1 rfl) ?_
      refine lv_icmp_ne (tgt := 78) hx hb d_Y_way_35 (by decide) (fun hc => ?_) (fun hc => ?_)
      · have h := ite_f h hc
        refine lv_iinc (k := 3) (v := (x3 + (1 : Int32))) hx hb d_Y_way_78 hl rfl rfl (by decide) rfl (fun ls hl => ?_)
        have hl : lv_has ls 4 [(3, .int (x3 + (1 : Int32))), (0, .ref (ad LY b 0 0)), (1, .int x1), (2, .int x2)] := hl
        refine lv_goto (tgt := 19) hx hb d_Y_way_81 (by decide) ?_
        exact ih x1 x2 (x3 + (1 : Int32)) z2 ls H locs  hW hS (lv_sub hl [1, 2, 3, 0] rfl) h
      · have h := ite_t h hc
        refine lv_aload_n hx hb d_Y_way_38 rfl (lv_at hl 0 rfl) ?_
        refine q_get (L := LY) (kc := 0) (ki := 0) (C := "DeficitNetModel") (T := T_Y) (N := 40) (ci := 5) (v := .ref (ad LY b 3 0)) hx hb hts in_Y hown hK hW okY0 rfl rfl 3 (by decide) t_483 rfl d_Y_way_39 ?_
        refine lv_iload_n hx hb d_Y_way_42 rfl (lv_at hl 3 rfl) ?_
        refine lv_iconst (v := (2 : Int32)) hx hb d_Y_way_43 (by decide) ?_
        refine lv_idiv hx hb d_Y_way_44 (by decide) ?_
        obtain ⟨j3, ej3, h⟩ := bnd h
        refine q_iald (L := LY) (kc := 3) (ki := 0) hx hb hK hW okY3 rfl ej3 d_Y_way_45 ?_
        refine lv_aload_n hx hb d_Y_way_46 rfl (lv_at hl 0 rfl) ?_
        refine q_get (L := LY) (kc := 0) (ki := 0) (C := "DeficitNetModel") (T := T_Y) (N := 40) (ci := 5) (v := .ref (ad LY b 8 0)) hx hb hts in_Y hown hK hW okY0 rfl rfl 8 (by decide) t_488 rfl d_Y_way_47 ?_
        refine lv_bipush (v := (8 : Int32)) hx hb d_Y_way_50 (by decide) ?_
        refine lv_aload_n hx hb d_Y_way_52 rfl (lv_at hl 0 rfl) ?_
        refine lv_iload_n hx hb d_Y_way_53 rfl (lv_at hl 3 rfl) ?_
        obtain ⟨⟨v4, z4⟩, er4, h⟩ := bnd h
        refine q_callVi (C := "DeficitNetModel") (As := [.int x3]) (rest := [.int (8 : Int32), .ref (ad LY b 8 0), .int (z2.1 3 0 j3)]) hx hb hml hown hts hK hW hS (c_Y_leads l G b x3 z2 v4 z4 er4) f_Y_leads t_646 ⟨rfl, rfl⟩ ⟨Nat.le_of_ble_eq_true rfl, Nat.le_of_ble_eq_true rfl⟩ (q_recv (L := LY) (kc := 0) (ki := 0) hK hW okY0 rfl rfl) rfl hl.1 rfl (Nat.le_of_ble_eq_true rfl) d_Y_way_54 (fun H locs hW hS => ?_)
        refine lv_imul hx hb d_Y_way_57 ?_
        refine lv_iload_n hx hb d_Y_way_58 rfl (lv_at hl 2 rfl) ?_
        refine lv_iadd hx hb d_Y_way_59 ?_
        obtain ⟨j5, ej5, h⟩ := bnd h
        refine q_iald (L := LY) (kc := 8) (ki := 0) hx hb hK hW okY8 rfl ej5 d_Y_way_60 ?_
        refine lv_iadd hx hb d_Y_way_61 ?_
        refine lv_aload_n hx hb d_Y_way_62 rfl (lv_at hl 0 rfl) ?_
        refine q_get (L := LY) (kc := 0) (ki := 0) (C := "DeficitNetModel") (T := T_Y) (N := 40) (ci := 5) (v := .ref (ad LY b 8 0)) hx hb hts in_Y hown hK hW okY0 rfl rfl 8 (by decide) t_488 rfl d_Y_way_63 ?_
        refine lv_bipush (v := (8 : Int32)) hx hb d_Y_way_66 (by decide) ?_
        refine lv_iload_n hx hb d_Y_way_68 rfl (lv_at hl 1 rfl) ?_
        refine lv_imul hx hb d_Y_way_69 ?_
        refine lv_iload_n hx hb d_Y_way_70 rfl (lv_at hl 2 rfl) ?_
        refine lv_iadd hx hb d_Y_way_71 ?_
        obtain ⟨j6, ej6, h⟩ := bnd h
        refine q_iald (L := LY) (kc := 8) (ki := 0) hx hb hK hW okY8 rfl ej6 d_Y_way_72 ?_
        refine lv_icmp_ne (tgt := 78) hx hb d_Y_way_73 (by decide) (fun hc => ?_) (fun hc => ?_)
        · have h := ite_f h hc
          refine lv_iinc (k := 3) (v := (x3 + (1 : Int32))) hx hb d_Y_way_78 hl rfl rfl (by decide) rfl (fun ls hl => ?_)
          have hl : lv_has ls 4 [(3, .int (x3 + (1 : Int32))), (0, .ref (ad LY b 0 0)), (1, .int x1), (2, .int x2)] := hl
          refine lv_goto (tgt := 19) hx hb d_Y_way_81 (by decide) ?_
          exact ih x1 x2 (x3 + (1 : Int32)) z4 ls H locs  hW hS (lv_sub hl [1, 2, 3, 0] rfl) h
        · have h := ite_t h hc
          exact hk76 x3 z4 ls H locs  hW hS (lv_sub hl [3] rfl) h
set_option maxHeartbeats 4000000 in
set_option maxRecDepth 100000 in
theorem c_Y_way (l : Launch) (G : GG) (b : Nat) (x1 : Int32) (x2 : Int32) (z : Mem) (r0 : Int32) (z0 : Mem) (h : dn_Y_way x1 x2 z = some (r0, z0)) : MtW l y_Y_way b_Y_way 4 (some .int) rm_Y_way LY G b [.ref (ad LY b 0 0), .int x1, .int x2] z (QI LY G b r0 z0) := by
  refine mtW_of (by decide) (Nat.le_of_ble_eq_true rfl) ?_
  intro p e s m args below meth c ls H locs C hW hS hl
  obtain ⟨hx, hb, hml, hr, hown, hts, hlk, hK⟩ := C
  have hl : lv_has ls 4 [(0, .ref (ad LY b 0 0)), (1, .int x1), (2, .int x2)] := hl
  unfold dn_Y_way at h
  refine lv_iload_n hx hb d_Y_way_0 rfl (lv_at hl 1 rfl) ?_
  refine lv_iload_n hx hb d_Y_way_1 rfl (lv_at hl 2 rfl) ?_
  refine lv_icmp_eq (tgt := 15) hx hb d_Y_way_2 (by decide) (fun hc => ?_) (fun hc => ?_)
  · have h := ite_t h hc
    refine lv_iconst (v := (-1 : Int32)) hx hb d_Y_way_15 (by decide) ?_
    exact q_iret hx hb hr hlk hK hW hS h d_Y_way_16
  · have h := ite_f h hc
    refine lv_aload_n hx hb d_Y_way_5 rfl (lv_at hl 0 rfl) ?_
    refine lv_iload_n hx hb d_Y_way_6 rfl (lv_at hl 1 rfl) ?_
    refine lv_iload_n hx hb d_Y_way_7 rfl (lv_at hl 2 rfl) ?_
    obtain ⟨⟨v1, z1⟩, er1, h⟩ := bnd h
    refine q_callVi (C := "DeficitNetModel") (As := [.int x1, .int x2]) (rest := []) hx hb hml hown hts hK hW hS (c_Y_distance l G b x1 x2 z v1 z1 er1) f_Y_distance t_641 ⟨rfl, rfl⟩ ⟨Nat.le_of_ble_eq_true rfl, Nat.le_of_ble_eq_true rfl⟩ (q_recv (L := LY) (kc := 0) (ki := 0) hK hW okY0 rfl rfl) rfl hl.1 rfl (Nat.le_of_ble_eq_true rfl) d_Y_way_8 (fun H locs hW hS => ?_)
    refine lv_iconst (v := (-1 : Int32)) hx hb d_Y_way_11 (by decide) ?_
    refine lv_icmp_ne (tgt := 17) hx hb d_Y_way_12 (by decide) (fun hc => ?_) (fun hc => ?_)
    · have h := ite_f h hc
      refine lv_iconst (v := (0 : Int32)) hx hb d_Y_way_17 (by decide) ?_
      refine lv_istore_n hx hb d_Y_way_18 rfl hl (by decide) rfl (fun ls hl => ?_)
      have hl : lv_has ls 4 [(3, .int (0 : Int32)), (0, .ref (ad LY b 0 0)), (1, .int x1), (2, .int x2)] := hl
      refine w_Y_way_19 ⟨hx, hb, hml, hr, hown, hts, hlk, hK⟩ (fun x3 z7 ls H locs  hW hS hl h => ?_) (fun z8 ls H locs  hW hS hl h => ?_) FU x1 x2 (0 : Int32) z1 ls H locs  hW hS (lv_sub hl [1, 2, 3, 0] rfl) h
      · refine lv_iload_n hx hb d_Y_way_76 rfl (lv_at hl 0 rfl) ?_
        exact q_iret hx hb hr hlk hK hW hS h d_Y_way_77
      · refine lv_iconst (v := (-1 : Int32)) hx hb d_Y_way_84 (by decide) ?_
        exact q_iret hx hb hr hlk hK hW hS h d_Y_way_85
    · have h := ite_t h hc
      refine lv_iconst (v := (-1 : Int32)) hx hb d_Y_way_15 (by decide) ?_
      exact q_iret hx hb hr hlk hK hW hS h d_Y_way_16
set_option maxHeartbeats 4000000 in
set_option maxRecDepth 100000 in
theorem c_Y_sizeOf (l : Launch) (G : GG) (b : Nat) (x1 : Int32) (z : Mem) (r0 : Int32) (z0 : Mem) (h : dn_Y_sizeOf x1 z = some (r0, z0)) : MtW l y_Y_sizeOf b_Y_sizeOf 2 (some .int) rm_Y_sizeOf LY G b [.ref (ad LY b 0 0), .int x1] z (QI LY G b r0 z0) := by
  refine mtW_of (by decide) (Nat.le_of_ble_eq_true rfl) ?_
  intro p e s m args below meth c ls H locs C hW hS hl
  obtain ⟨hx, hb, hml, hr, hown, hts, hlk, hK⟩ := C
  have hl : lv_has ls 2 [(0, .ref (ad LY b 0 0)), (1, .int x1)] := hl
  unfold dn_Y_sizeOf at h
  refine lv_aload_n hx hb d_Y_sizeOf_0 rfl (lv_at hl 0 rfl) ?_
  refine q_get (L := LY) (kc := 0) (ki := 0) (C := "DeficitNetModel") (T := T_Y) (N := 40) (ci := 5) (v := .ref (ad LY b 27 0)) hx hb hts in_Y hown hK hW okY0 rfl rfl 28 (by decide) t_508 rfl d_Y_sizeOf_1 ?_
  refine lv_iload_n hx hb d_Y_sizeOf_4 rfl (lv_at hl 1 rfl) ?_
  obtain ⟨j1, ej1, h⟩ := bnd h
  refine q_zald (L := LY) (kc := 27) (ki := 0) hx hb hK hW okY27 rfl ej1 d_Y_sizeOf_5 ?_
  refine lv_if_eq (tgt := 13) hx hb d_Y_sizeOf_6 (by decide) (fun hc => ?_) (fun hc => ?_)
  · have h := ite_t h hc
    refine lv_aload_n hx hb d_Y_sizeOf_13 rfl (lv_at hl 0 rfl) ?_
    refine q_get (L := LY) (kc := 0) (ki := 0) (C := "DeficitNetModel") (T := T_Y) (N := 40) (ci := 5) (v := .ref (ad LY b 12 0)) hx hb hts in_Y hown hK hW okY0 rfl rfl 13 (by decide) t_493 rfl d_Y_sizeOf_14 ?_
    refine lv_aload_n hx hb d_Y_sizeOf_17 rfl (lv_at hl 0 rfl) ?_
    refine q_get (L := LY) (kc := 0) (ki := 0) (C := "DeficitNetModel") (T := T_Y) (N := 40) (ci := 5) (v := .ref (ad LY b 25 0)) hx hb hts in_Y hown hK hW okY0 rfl rfl 26 (by decide) t_506 rfl d_Y_sizeOf_18 ?_
    refine lv_iload_n hx hb d_Y_sizeOf_21 rfl (lv_at hl 1 rfl) ?_
    obtain ⟨j2, ej2, h⟩ := bnd h
    refine q_iald (L := LY) (kc := 25) (ki := 0) hx hb hK hW okY25 rfl ej2 d_Y_sizeOf_22 ?_
    obtain ⟨j3, ej3, h⟩ := bnd h
    refine q_iald (L := LY) (kc := 12) (ki := 0) hx hb hK hW okY12 rfl ej3 d_Y_sizeOf_23 ?_
    exact q_iret hx hb hr hlk hK hW hS h d_Y_sizeOf_24
  · have h := ite_f h hc
    refine lv_iconst (v := (1 : Int32)) hx hb d_Y_sizeOf_9 (by decide) ?_
    refine lv_goto (tgt := 24) hx hb d_Y_sizeOf_10 (by decide) ?_
    exact q_iret hx hb hr hlk hK hW hS h d_Y_sizeOf_24
set_option maxHeartbeats 4000000 in
set_option maxRecDepth 100000 in
theorem c_Y_endOf (l : Launch) (G : GG) (b : Nat) (x1 : Int32) (z : Mem) (r0 : Int32) (z0 : Mem) (h : dn_Y_endOf x1 z = some (r0, z0)) : MtW l y_Y_endOf b_Y_endOf 2 (some .int) rm_Y_endOf LY G b [.ref (ad LY b 0 0), .int x1] z (QI LY G b r0 z0) := by
  refine mtW_of (by decide) (Nat.le_of_ble_eq_true rfl) ?_
  intro p e s m args below meth c ls H locs C hW hS hl
  obtain ⟨hx, hb, hml, hr, hown, hts, hlk, hK⟩ := C
  have hl : lv_has ls 2 [(0, .ref (ad LY b 0 0)), (1, .int x1)] := hl
  unfold dn_Y_endOf at h
  refine lv_aload_n hx hb d_Y_endOf_0 rfl (lv_at hl 0 rfl) ?_
  refine q_get (L := LY) (kc := 0) (ki := 0) (C := "DeficitNetModel") (T := T_Y) (N := 40) (ci := 5) (v := .ref (ad LY b 27 0)) hx hb hts in_Y hown hK hW okY0 rfl rfl 28 (by decide) t_508 rfl d_Y_endOf_1 ?_
  refine lv_iload_n hx hb d_Y_endOf_4 rfl (lv_at hl 1 rfl) ?_
  obtain ⟨j1, ej1, h⟩ := bnd h
  refine q_zald (L := LY) (kc := 27) (ki := 0) hx hb hK hW okY27 rfl ej1 d_Y_endOf_5 ?_
  refine lv_if_eq (tgt := 23) hx hb d_Y_endOf_6 (by decide) (fun hc => ?_) (fun hc => ?_)
  · have h := ite_t h hc
    refine lv_aload_n hx hb d_Y_endOf_23 rfl (lv_at hl 0 rfl) ?_
    refine q_get (L := LY) (kc := 0) (ki := 0) (C := "DeficitNetModel") (T := T_Y) (N := 40) (ci := 5) (v := .ref (ad LY b 10 0)) hx hb hts in_Y hown hK hW okY0 rfl rfl 11 (by decide) t_491 rfl d_Y_endOf_24 ?_
    refine lv_aload_n hx hb d_Y_endOf_27 rfl (lv_at hl 0 rfl) ?_
    refine q_get (L := LY) (kc := 0) (ki := 0) (C := "DeficitNetModel") (T := T_Y) (N := 40) (ci := 5) (v := .ref (ad LY b 25 0)) hx hb hts in_Y hown hK hW okY0 rfl rfl 26 (by decide) t_506 rfl d_Y_endOf_28 ?_
    refine lv_iload_n hx hb d_Y_endOf_31 rfl (lv_at hl 1 rfl) ?_
    obtain ⟨j2, ej2, h⟩ := bnd h
    refine q_iald (L := LY) (kc := 25) (ki := 0) hx hb hK hW okY25 rfl ej2 d_Y_endOf_32 ?_
    obtain ⟨j3, ej3, h⟩ := bnd h
    refine q_iald (L := LY) (kc := 10) (ki := 0) hx hb hK hW okY10 rfl ej3 d_Y_endOf_33 ?_
    exact q_iret hx hb hr hlk hK hW hS h d_Y_endOf_34
  · have h := ite_f h hc
    refine lv_aload_n hx hb d_Y_endOf_9 rfl (lv_at hl 0 rfl) ?_
    refine q_get (L := LY) (kc := 0) (ki := 0) (C := "DeficitNetModel") (T := T_Y) (N := 40) (ci := 5) (v := .ref (ad LY b 9 0)) hx hb hts in_Y hown hK hW okY0 rfl rfl 10 (by decide) t_490 rfl d_Y_endOf_10 ?_
    refine lv_aload_n hx hb d_Y_endOf_13 rfl (lv_at hl 0 rfl) ?_
    refine q_get (L := LY) (kc := 0) (ki := 0) (C := "DeficitNetModel") (T := T_Y) (N := 40) (ci := 5) (v := .ref (ad LY b 25 0)) hx hb hts in_Y hown hK hW okY0 rfl rfl 26 (by decide) t_506 rfl d_Y_endOf_14 ?_
    refine lv_iload_n hx hb d_Y_endOf_17 rfl (lv_at hl 1 rfl) ?_
    obtain ⟨j4, ej4, h⟩ := bnd h
    refine q_iald (L := LY) (kc := 25) (ki := 0) hx hb hK hW okY25 rfl ej4 d_Y_endOf_18 ?_
    obtain ⟨j5, ej5, h⟩ := bnd h
    refine q_iald (L := LY) (kc := 9) (ki := 0) hx hb hK hW okY9 rfl ej5 d_Y_endOf_19 ?_
    refine lv_goto (tgt := 34) hx hb d_Y_endOf_20 (by decide) ?_
    exact q_iret hx hb hr hlk hK hW hS h d_Y_endOf_34
set_option maxHeartbeats 4000000 in
set_option maxRecDepth 100000 in
theorem w_Y_queued_5 {p : Program} {l : Launch} {e : Env} {s : State} {m : MethodId} {args : Array Value} {below : List Frame} {meth : Method} {c : Code} {G : GG} {b : Nat} {r0 : Int32} {z0 : Mem} (C : Cx y_Y_queued b_Y_queued 5 (some .int) p s m args meth c G) {k64 : Int32 → Mem → Option (Int32 × Mem)} 
    (hk64 : ∀ (x3 : Int32) (z : Mem) (ls : Array Slot) (H : Heap) (locs : List Loc), Wd LY G b z H → va_S (rgL LY b) s.heap H locs → lv_has ls 5 [(3, .int x3)] → k64 x3 z = some (r0, z0) → W p l e rm_Y_queued s m args below meth c H locs 0 0 (MQ below (QI LY G b r0 z0) args s 0 0 (rgL LY b)) (F0 m 64 ls [])) :
    ∀ (n : Nat) (x1 : Int32) (x2 : Int32) (x3 : Int32) (x4 : Int32) (z : Mem) (ls : Array Slot) (H : Heap) (locs : List Loc), Wd LY G b z H → va_S (rgL LY b) s.heap H locs → lv_has ls 5 [(0, .ref (ad LY b 0 0)), (1, .int x1), (2, .int x2), (3, .int x3), (4, .int x4)] → dn_Y_queued_5 k64 n x1 x2 x3 x4 z = some (r0, z0) → W p l e rm_Y_queued s m args below meth c H locs 0 0 (MQ below (QI LY G b r0 z0) args s 0 0 (rgL LY b)) (F0 m 5 ls []) := by
  obtain ⟨hx, hb, hml, hr, hown, hts, hlk, hK⟩ := C
  intro n
  induction n with
  | zero =>
    intro x1 x2 x3 x4 z ls H locs  hW hS hl h
    cases h
  | succ n ih =>
    intro x1 x2 x3 x4 z ls H locs  hW hS hl h
    rw [dn_Y_queued_5] at h
    refine lv_iload hx hb d_Y_queued_5 (lv_at hl 4 rfl) ?_
    refine lv_bipush (v := (64 : Int32)) hx hb d_Y_queued_7 (by decide) ?_
    refine lv_icmp_ge (tgt := 64) hx hb d_Y_queued_9 (by decide) (fun hc => ?_) (fun hc => ?_)
    · have h := ite_t h hc
      exact hk64 x3 z ls H locs  hW hS (lv_sub hl [3] rfl) h
    · have h := ite_f h hc
      refine lv_iload_n hx hb d_Y_queued_12 rfl (lv_at hl 3 rfl) ?_
      refine lv_aload_n hx hb d_Y_queued_13 rfl (lv_at hl 0 rfl) ?_
      refine q_get (L := LY) (kc := 0) (ki := 0) (C := "DeficitNetModel") (T := T_Y) (N := 40) (ci := 5) (v := .ref (ad LY b 24 0)) hx hb hts in_Y hown hK hW okY0 rfl rfl 25 (by decide) t_505 rfl d_Y_queued_14 ?_
      refine lv_iload hx hb d_Y_queued_17 (lv_at hl 4 rfl) ?_
      obtain ⟨j1, ej1, h⟩ := bnd h
      refine q_iald (L := LY) (kc := 24) (ki := 0) hx hb hK hW okY24 rfl ej1 d_Y_queued_19 ?_
      refine lv_iconst (v := (1 : Int32)) hx hb d_Y_queued_20 (by decide) ?_
      refine lv_icmp_ne (tgt := 55) hx hb d_Y_queued_21 (by decide) (fun hc => ?_) (fun hc => ?_)
      · have h := ite_f h hc
        refine lv_iconst (v := (0 : Int32)) hx hb d_Y_queued_55 (by decide) ?_
        refine lv_iadd hx hb d_Y_queued_56 ?_
        refine lv_istore_n hx hb d_Y_queued_57 rfl hl (by decide) rfl (fun ls hl => ?_)
        have hl : lv_has ls 5 [(3, .int (x3 + (0 : Int32))), (0, .ref (ad LY b 0 0)), (1, .int x1), (2, .int x2), (4, .int x4)] := hl
        refine lv_iinc (k := 4) (v := (x4 + (1 : Int32))) hx hb d_Y_queued_58 hl rfl rfl (by decide) rfl (fun ls hl => ?_)
        have hl : lv_has ls 5 [(4, .int (x4 + (1 : Int32))), (3, .int (x3 + (0 : Int32))), (0, .ref (ad LY b 0 0)), (1, .int x1), (2, .int x2)] := hl
        refine lv_goto (tgt := 5) hx hb d_Y_queued_61 (by decide) ?_
        exact ih x1 x2 (x3 + (0 : Int32)) (x4 + (1 : Int32)) z ls H locs  hW hS (lv_sub hl [2, 3, 4, 1, 0] rfl) h
      · have h := ite_t h hc
        refine lv_aload_n hx hb d_Y_queued_24 rfl (lv_at hl 0 rfl) ?_
        refine q_get (L := LY) (kc := 0) (ki := 0) (C := "DeficitNetModel") (T := T_Y) (N := 40) (ci := 5) (v := .ref (ad LY b 28 0)) hx hb hts in_Y hown hK hW okY0 rfl rfl 29 (by decide) t_509 rfl d_Y_queued_25 ?_
        refine lv_iload hx hb d_Y_queued_28 (lv_at hl 4 rfl) ?_
        obtain ⟨j2, ej2, h⟩ := bnd h
        refine q_iald (L := LY) (kc := 28) (ki := 0) hx hb hK hW okY28 rfl ej2 d_Y_queued_30 ?_
        refine lv_iload_n hx hb d_Y_queued_31 rfl (lv_at hl 1 rfl) ?_
        refine lv_icmp_ne (tgt := 55) hx hb d_Y_queued_32 (by decide) (fun hc => ?_) (fun hc => ?_)
        · have h := ite_f h hc
          refine lv_iconst (v := (0 : Int32)) hx hb d_Y_queued_55 (by decide) ?_
          refine lv_iadd hx hb d_Y_queued_56 ?_
          refine lv_istore_n hx hb d_Y_queued_57 rfl hl (by decide) rfl (fun ls hl => ?_)
          have hl : lv_has ls 5 [(3, .int (x3 + (0 : Int32))), (0, .ref (ad LY b 0 0)), (1, .int x1), (2, .int x2), (4, .int x4)] := hl
          refine lv_iinc (k := 4) (v := (x4 + (1 : Int32))) hx hb d_Y_queued_58 hl rfl rfl (by decide) rfl (fun ls hl => ?_)
          have hl : lv_has ls 5 [(4, .int (x4 + (1 : Int32))), (3, .int (x3 + (0 : Int32))), (0, .ref (ad LY b 0 0)), (1, .int x1), (2, .int x2)] := hl
          refine lv_goto (tgt := 5) hx hb d_Y_queued_61 (by decide) ?_
          exact ih x1 x2 (x3 + (0 : Int32)) (x4 + (1 : Int32)) z ls H locs  hW hS (lv_sub hl [2, 3, 4, 1, 0] rfl) h
        · have h := ite_t h hc
          refine lv_iload_n hx hb d_Y_queued_35 rfl (lv_at hl 2 rfl) ?_
          refine lv_iconst (v := (-1 : Int32)) hx hb d_Y_queued_36 (by decide) ?_
          refine lv_icmp_eq (tgt := 51) hx hb d_Y_queued_37 (by decide) (fun hc => ?_) (fun hc => ?_)
          · have h := ite_t h hc
            refine lv_iconst (v := (1 : Int32)) hx hb d_Y_queued_51 (by decide) ?_
            refine lv_goto (tgt := 56) hx hb d_Y_queued_52 (by decide) ?_
            refine lv_iadd hx hb d_Y_queued_56 ?_
            refine lv_istore_n hx hb d_Y_queued_57 rfl hl (by decide) rfl (fun ls hl => ?_)
            have hl : lv_has ls 5 [(3, .int (x3 + (1 : Int32))), (0, .ref (ad LY b 0 0)), (1, .int x1), (2, .int x2), (4, .int x4)] := hl
            refine lv_iinc (k := 4) (v := (x4 + (1 : Int32))) hx hb d_Y_queued_58 hl rfl rfl (by decide) rfl (fun ls hl => ?_)
            have hl : lv_has ls 5 [(4, .int (x4 + (1 : Int32))), (3, .int (x3 + (1 : Int32))), (0, .ref (ad LY b 0 0)), (1, .int x1), (2, .int x2)] := hl
            refine lv_goto (tgt := 5) hx hb d_Y_queued_61 (by decide) ?_
            exact ih x1 x2 (x3 + (1 : Int32)) (x4 + (1 : Int32)) z ls H locs  hW hS (lv_sub hl [2, 3, 4, 1, 0] rfl) h
          · have h := ite_f h hc
            refine lv_aload_n hx hb d_Y_queued_40 rfl (lv_at hl 0 rfl) ?_
            refine q_get (L := LY) (kc := 0) (ki := 0) (C := "DeficitNetModel") (T := T_Y) (N := 40) (ci := 5) (v := .ref (ad LY b 25 0)) hx hb hts in_Y hown hK hW okY0 rfl rfl 26 (by decide) t_506 rfl d_Y_queued_41 ?_
            refine lv_iload hx hb d_Y_queued_44 (lv_at hl 4 rfl) ?_
            obtain ⟨j3, ej3, h⟩ := bnd h
            refine q_iald (L := LY) (kc := 25) (ki := 0) hx hb hK hW okY25 rfl ej3 d_Y_queued_46 ?_
            refine lv_iload_n hx hb d_Y_queued_47 rfl (lv_at hl 2 rfl) ?_
            refine lv_icmp_ne (tgt := 55) hx hb d_Y_queued_48 (by decide) (fun hc => ?_) (fun hc => ?_)
            · have h := ite_f h hc
              refine lv_iconst (v := (0 : Int32)) hx hb d_Y_queued_55 (by decide) ?_
              refine lv_iadd hx hb d_Y_queued_56 ?_
              refine lv_istore_n hx hb d_Y_queued_57 rfl hl (by decide) rfl (fun ls hl => ?_)
              have hl : lv_has ls 5 [(3, .int (x3 + (0 : Int32))), (0, .ref (ad LY b 0 0)), (1, .int x1), (2, .int x2), (4, .int x4)] := hl
              refine lv_iinc (k := 4) (v := (x4 + (1 : Int32))) hx hb d_Y_queued_58 hl rfl rfl (by decide) rfl (fun ls hl => ?_)
              have hl : lv_has ls 5 [(4, .int (x4 + (1 : Int32))), (3, .int (x3 + (0 : Int32))), (0, .ref (ad LY b 0 0)), (1, .int x1), (2, .int x2)] := hl
              refine lv_goto (tgt := 5) hx hb d_Y_queued_61 (by decide) ?_
              exact ih x1 x2 (x3 + (0 : Int32)) (x4 + (1 : Int32)) z ls H locs  hW hS (lv_sub hl [2, 3, 4, 1, 0] rfl) h
            · have h := ite_t h hc
              refine lv_iconst (v := (1 : Int32)) hx hb d_Y_queued_51 (by decide) ?_
              refine lv_goto (tgt := 56) hx hb d_Y_queued_52 (by decide) ?_
              refine lv_iadd hx hb d_Y_queued_56 ?_
              refine lv_istore_n hx hb d_Y_queued_57 rfl hl (by decide) rfl (fun ls hl => ?_)
              have hl : lv_has ls 5 [(3, .int (x3 + (1 : Int32))), (0, .ref (ad LY b 0 0)), (1, .int x1), (2, .int x2), (4, .int x4)] := hl
              refine lv_iinc (k := 4) (v := (x4 + (1 : Int32))) hx hb d_Y_queued_58 hl rfl rfl (by decide) rfl (fun ls hl => ?_)
              have hl : lv_has ls 5 [(4, .int (x4 + (1 : Int32))), (3, .int (x3 + (1 : Int32))), (0, .ref (ad LY b 0 0)), (1, .int x1), (2, .int x2)] := hl
              refine lv_goto (tgt := 5) hx hb d_Y_queued_61 (by decide) ?_
              exact ih x1 x2 (x3 + (1 : Int32)) (x4 + (1 : Int32)) z ls H locs  hW hS (lv_sub hl [2, 3, 4, 1, 0] rfl) h
set_option maxHeartbeats 4000000 in
set_option maxRecDepth 100000 in
theorem c_Y_queued (l : Launch) (G : GG) (b : Nat) (x1 : Int32) (x2 : Int32) (z : Mem) (r0 : Int32) (z0 : Mem) (h : dn_Y_queued x1 x2 z = some (r0, z0)) : MtW l y_Y_queued b_Y_queued 5 (some .int) rm_Y_queued LY G b [.ref (ad LY b 0 0), .int x1, .int x2] z (QI LY G b r0 z0) := by
  refine mtW_of (by decide) (Nat.le_of_ble_eq_true rfl) ?_
  intro p e s m args below meth c ls H locs C hW hS hl
  obtain ⟨hx, hb, hml, hr, hown, hts, hlk, hK⟩ := C
  have hl : lv_has ls 5 [(0, .ref (ad LY b 0 0)), (1, .int x1), (2, .int x2)] := hl
  unfold dn_Y_queued at h
  refine lv_iconst (v := (0 : Int32)) hx hb d_Y_queued_0 (by decide) ?_
  refine lv_istore_n hx hb d_Y_queued_1 rfl hl (by decide) rfl (fun ls hl => ?_)
  have hl : lv_has ls 5 [(3, .int (0 : Int32)), (0, .ref (ad LY b 0 0)), (1, .int x1), (2, .int x2)] := hl
  refine lv_iconst (v := (0 : Int32)) hx hb d_Y_queued_2 (by decide) ?_
  refine lv_istore hx hb d_Y_queued_3 hl (by decide) rfl (fun ls hl => ?_)
  have hl : lv_has ls 5 [(4, .int (0 : Int32)), (3, .int (0 : Int32)), (0, .ref (ad LY b 0 0)), (1, .int x1), (2, .int x2)] := hl
  refine w_Y_queued_5 ⟨hx, hb, hml, hr, hown, hts, hlk, hK⟩ (fun x3 z4 ls H locs  hW hS hl h => ?_) FU x1 x2 (0 : Int32) (0 : Int32) z ls H locs  hW hS (lv_sub hl [2, 3, 4, 1, 0] rfl) h
  · refine lv_iload_n hx hb d_Y_queued_64 rfl (lv_at hl 0 rfl) ?_
    exact q_iret hx hb hr hlk hK hW hS h d_Y_queued_65
set_option maxHeartbeats 4000000 in
set_option maxRecDepth 100000 in
theorem w_Y_on_4 {p : Program} {l : Launch} {e : Env} {s : State} {m : MethodId} {args : Array Value} {below : List Frame} {meth : Method} {c : Code} {G : GG} {b : Nat} {r0 : Int32} {z0 : Mem} (C : Cx y_Y_on b_Y_on 4 (some .int) p s m args meth c G) {k42 : Int32 → Mem → Option (Int32 × Mem)} 
    (hk42 : ∀ (x2 : Int32) (z : Mem) (ls : Array Slot) (H : Heap) (locs : List Loc), Wd LY G b z H → va_S (rgL LY b) s.heap H locs → lv_has ls 4 [(2, .int x2)] → k42 x2 z = some (r0, z0) → W p l e rm_Y_on s m args below meth c H locs 0 0 (MQ below (QI LY G b r0 z0) args s 0 0 (rgL LY b)) (F0 m 42 ls [])) :
    ∀ (n : Nat) (x1 : Int32) (x2 : Int32) (x3 : Int32) (z : Mem) (ls : Array Slot) (H : Heap) (locs : List Loc), Wd LY G b z H → va_S (rgL LY b) s.heap H locs → lv_has ls 4 [(0, .ref (ad LY b 0 0)), (1, .int x1), (2, .int x2), (3, .int x3)] → dn_Y_on_4 k42 n x1 x2 x3 z = some (r0, z0) → W p l e rm_Y_on s m args below meth c H locs 0 0 (MQ below (QI LY G b r0 z0) args s 0 0 (rgL LY b)) (F0 m 4 ls []) := by
  obtain ⟨hx, hb, hml, hr, hown, hts, hlk, hK⟩ := C
  intro n
  induction n with
  | zero =>
    intro x1 x2 x3 z ls H locs  hW hS hl h
    cases h
  | succ n ih =>
    intro x1 x2 x3 z ls H locs  hW hS hl h
    rw [dn_Y_on_4] at h
    refine lv_iload_n hx hb d_Y_on_4 rfl (lv_at hl 3 rfl) ?_
    refine lv_bipush (v := (64 : Int32)) hx hb d_Y_on_5 (by decide) ?_
    refine lv_icmp_ge (tgt := 42) hx hb d_Y_on_7 (by decide) (fun hc => ?_) (fun hc => ?_)
    · have h := ite_t h hc
      exact hk42 x2 z ls H locs  hW hS (lv_sub hl [2] rfl) h
    · have h := ite_f h hc
      refine lv_aload_n hx hb d_Y_on_10 rfl (lv_at hl 0 rfl) ?_
      refine q_get (L := LY) (kc := 0) (ki := 0) (C := "DeficitNetModel") (T := T_Y) (N := 40) (ci := 5) (v := .ref (ad LY b 24 0)) hx hb hts in_Y hown hK hW okY0 rfl rfl 25 (by decide) t_505 rfl d_Y_on_11 ?_
      refine lv_iload_n hx hb d_Y_on_14 rfl (lv_at hl 3 rfl) ?_
      obtain ⟨j1, ej1, h⟩ := bnd h
      refine q_iald (L := LY) (kc := 24) (ki := 0) hx hb hK hW okY24 rfl ej1 d_Y_on_15 ?_
      refine lv_iconst (v := (2 : Int32)) hx hb d_Y_on_16 (by decide) ?_
      refine lv_icmp_ne (tgt := 34) hx hb d_Y_on_17 (by decide) (fun hc => ?_) (fun hc => ?_)
      · have h := ite_f h hc
        refine lv_iload_n hx hb d_Y_on_34 rfl (lv_at hl 2 rfl) ?_
        refine lv_istore_n hx hb d_Y_on_35 rfl hl (by decide) rfl (fun ls hl => ?_)
        have hl : lv_has ls 4 [(2, .int x2), (0, .ref (ad LY b 0 0)), (1, .int x1), (3, .int x3)] := hl
        refine lv_iinc (k := 3) (v := (x3 + (1 : Int32))) hx hb d_Y_on_36 hl rfl rfl (by decide) rfl (fun ls hl => ?_)
        have hl : lv_has ls 4 [(3, .int (x3 + (1 : Int32))), (2, .int x2), (0, .ref (ad LY b 0 0)), (1, .int x1)] := hl
        refine lv_goto (tgt := 4) hx hb d_Y_on_39 (by decide) ?_
        exact ih x1 x2 (x3 + (1 : Int32)) z ls H locs  hW hS (lv_sub hl [2, 3, 1, 0] rfl) h
      · have h := ite_t h hc
        refine lv_aload_n hx hb d_Y_on_20 rfl (lv_at hl 0 rfl) ?_
        refine q_get (L := LY) (kc := 0) (ki := 0) (C := "DeficitNetModel") (T := T_Y) (N := 40) (ci := 5) (v := .ref (ad LY b 28 0)) hx hb hts in_Y hown hK hW okY0 rfl rfl 29 (by decide) t_509 rfl d_Y_on_21 ?_
        refine lv_iload_n hx hb d_Y_on_24 rfl (lv_at hl 3 rfl) ?_
        obtain ⟨j2, ej2, h⟩ := bnd h
        refine q_iald (L := LY) (kc := 28) (ki := 0) hx hb hK hW okY28 rfl ej2 d_Y_on_25 ?_
        refine lv_iload_n hx hb d_Y_on_26 rfl (lv_at hl 1 rfl) ?_
        refine lv_icmp_ne (tgt := 34) hx hb d_Y_on_27 (by decide) (fun hc => ?_) (fun hc => ?_)
        · have h := ite_f h hc
          refine lv_iload_n hx hb d_Y_on_34 rfl (lv_at hl 2 rfl) ?_
          refine lv_istore_n hx hb d_Y_on_35 rfl hl (by decide) rfl (fun ls hl => ?_)
          have hl : lv_has ls 4 [(2, .int x2), (0, .ref (ad LY b 0 0)), (1, .int x1), (3, .int x3)] := hl
          refine lv_iinc (k := 3) (v := (x3 + (1 : Int32))) hx hb d_Y_on_36 hl rfl rfl (by decide) rfl (fun ls hl => ?_)
          have hl : lv_has ls 4 [(3, .int (x3 + (1 : Int32))), (2, .int x2), (0, .ref (ad LY b 0 0)), (1, .int x1)] := hl
          refine lv_goto (tgt := 4) hx hb d_Y_on_39 (by decide) ?_
          exact ih x1 x2 (x3 + (1 : Int32)) z ls H locs  hW hS (lv_sub hl [2, 3, 1, 0] rfl) h
        · have h := ite_t h hc
          refine lv_iload_n hx hb d_Y_on_30 rfl (lv_at hl 3 rfl) ?_
          refine lv_goto (tgt := 35) hx hb d_Y_on_31 (by decide) ?_
          refine lv_istore_n hx hb d_Y_on_35 rfl hl (by decide) rfl (fun ls hl => ?_)
          have hl : lv_has ls 4 [(2, .int x3), (0, .ref (ad LY b 0 0)), (1, .int x1), (3, .int x3)] := hl
          refine lv_iinc (k := 3) (v := (x3 + (1 : Int32))) hx hb d_Y_on_36 hl rfl rfl (by decide) rfl (fun ls hl => ?_)
          have hl : lv_has ls 4 [(3, .int (x3 + (1 : Int32))), (2, .int x3), (0, .ref (ad LY b 0 0)), (1, .int x1)] := hl
          refine lv_goto (tgt := 4) hx hb d_Y_on_39 (by decide) ?_
          exact ih x1 x3 (x3 + (1 : Int32)) z ls H locs  hW hS (lv_sub hl [2, 3, 1, 0] rfl) h
set_option maxHeartbeats 4000000 in
set_option maxRecDepth 100000 in
theorem c_Y_on (l : Launch) (G : GG) (b : Nat) (x1 : Int32) (z : Mem) (r0 : Int32) (z0 : Mem) (h : dn_Y_on x1 z = some (r0, z0)) : MtW l y_Y_on b_Y_on 4 (some .int) rm_Y_on LY G b [.ref (ad LY b 0 0), .int x1] z (QI LY G b r0 z0) := by
  refine mtW_of (by decide) (Nat.le_of_ble_eq_true rfl) ?_
  intro p e s m args below meth c ls H locs C hW hS hl
  obtain ⟨hx, hb, hml, hr, hown, hts, hlk, hK⟩ := C
  have hl : lv_has ls 4 [(0, .ref (ad LY b 0 0)), (1, .int x1)] := hl
  unfold dn_Y_on at h
  refine lv_iconst (v := (-1 : Int32)) hx hb d_Y_on_0 (by decide) ?_
  refine lv_istore_n hx hb d_Y_on_1 rfl hl (by decide) rfl (fun ls hl => ?_)
  have hl : lv_has ls 4 [(2, .int (-1 : Int32)), (0, .ref (ad LY b 0 0)), (1, .int x1)] := hl
  refine lv_iconst (v := (0 : Int32)) hx hb d_Y_on_2 (by decide) ?_
  refine lv_istore_n hx hb d_Y_on_3 rfl hl (by decide) rfl (fun ls hl => ?_)
  have hl : lv_has ls 4 [(3, .int (0 : Int32)), (2, .int (-1 : Int32)), (0, .ref (ad LY b 0 0)), (1, .int x1)] := hl
  refine w_Y_on_4 ⟨hx, hb, hml, hr, hown, hts, hlk, hK⟩ (fun x2 z3 ls H locs  hW hS hl h => ?_) FU x1 (-1 : Int32) (0 : Int32) z ls H locs  hW hS (lv_sub hl [2, 3, 1, 0] rfl) h
  · refine lv_iload_n hx hb d_Y_on_42 rfl (lv_at hl 0 rfl) ?_
    exact q_iret hx hb hr hlk hK hW hS h d_Y_on_43
set_option maxHeartbeats 4000000 in
set_option maxRecDepth 100000 in
theorem c_Y_lose (l : Launch) (G : GG) (b : Nat) (x1 : Int32) (z : Mem) (z0 : Mem) (h : dn_Y_lose x1 z = some z0) : MtW l y_Y_lose b_Y_lose 2 none rm_Y_lose LY G b [.ref (ad LY b 0 0), .int x1] z (QV LY G b z0) := by
  refine mtW_of (by decide) (Nat.le_of_ble_eq_true rfl) ?_
  intro p e s m args below meth c ls H locs C hW hS hl
  obtain ⟨hx, hb, hml, hr, hown, hts, hlk, hK⟩ := C
  have hl : lv_has ls 2 [(0, .ref (ad LY b 0 0)), (1, .int x1)] := hl
  unfold dn_Y_lose at h
  refine lv_aload_n hx hb d_Y_lose_0 rfl (lv_at hl 0 rfl) ?_
  refine q_get (L := LY) (kc := 0) (ki := 0) (C := "DeficitNetModel") (T := T_Y) (N := 40) (ci := 5) (v := .ref (ad LY b 24 0)) hx hb hts in_Y hown hK hW okY0 rfl rfl 25 (by decide) t_505 rfl d_Y_lose_1 ?_
  refine lv_iload_n hx hb d_Y_lose_4 rfl (lv_at hl 1 rfl) ?_
  refine lv_iconst (v := (0 : Int32)) hx hb d_Y_lose_5 (by decide) ?_
  obtain ⟨j1, ej1, h⟩ := bnd h
  refine q_iast (L := LY) (kc := 24) (ki := 0) hx hb hK hW hS okY24 (fun _ => rfl) ej1 d_Y_lose_6 (fun H locs z2 ez2 hW hS => ?_)
  have h := stM_n h ez2
  refine lv_aload_n hx hb d_Y_lose_7 rfl (lv_at hl 0 rfl) ?_
  refine q_get (L := LY) (kc := 0) (ki := 0) (C := "DeficitNetModel") (T := T_Y) (N := 40) (ci := 5) (v := .ref (ad LY b 23 0)) hx hb hts in_Y hown hK hW okY0 rfl rfl 24 (by decide) t_504 rfl d_Y_lose_8 ?_
  refine lv_iconst (v := (4 : Int32)) hx hb d_Y_lose_11 (by decide) ?_
  refine lv_aload_n hx hb d_Y_lose_12 rfl (lv_at hl 0 rfl) ?_
  refine q_get (L := LY) (kc := 0) (ki := 0) (C := "DeficitNetModel") (T := T_Y) (N := 40) (ci := 5) (v := .ref (ad LY b 25 0)) hx hb hts in_Y hown hK hW okY0 rfl rfl 26 (by decide) t_506 rfl d_Y_lose_13 ?_
  refine lv_iload_n hx hb d_Y_lose_16 rfl (lv_at hl 1 rfl) ?_
  obtain ⟨j3, ej3, h⟩ := bnd h
  refine q_iald (L := LY) (kc := 25) (ki := 0) hx hb hK hW okY25 rfl ej3 d_Y_lose_17 ?_
  refine lv_imul hx hb d_Y_lose_18 ?_
  refine lv_iconst (v := (2 : Int32)) hx hb d_Y_lose_19 (by decide) ?_
  refine lv_iadd hx hb d_Y_lose_20 ?_
  refine lv_dup2_11 hx hb d_Y_lose_21 rfl rfl ?_
  obtain ⟨j4, ej4, h⟩ := bnd h
  refine q_iald (L := LY) (kc := 23) (ki := 0) hx hb hK hW okY23 rfl ej4 d_Y_lose_22 ?_
  refine lv_iconst (v := (1 : Int32)) hx hb d_Y_lose_23 (by decide) ?_
  refine lv_iadd hx hb d_Y_lose_24 ?_
  obtain ⟨j5, ej5, h⟩ := bnd h
  refine q_iast (L := LY) (kc := 23) (ki := 0) hx hb hK hW hS okY23 (fun _ => rfl) ej5 d_Y_lose_25 (fun H locs z6 ez6 hW hS => ?_)
  have h := stM_n h ez6
  exact q_vret hx hb hr hlk hK hW hS h d_Y_lose_26
