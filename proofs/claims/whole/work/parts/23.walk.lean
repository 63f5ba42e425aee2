set_option maxHeartbeats 4000000 in
set_option maxRecDepth 100000 in
theorem c_X_step (l : Launch) (G : GG) (b : Nat) (z : Mem) (r0 : Int32) (z0 : Mem) (h : dn_X_step z = some (r0, z0)) : MtW l y_X_step b_X_step 1 (some .boolean) rm_X_step LX G b [.ref (ad LX b 0 0)] z (QI LX G b r0 z0) := by
  refine mtW_of (by decide) (Nat.le_of_ble_eq_true rfl) ?_
  intro p e s m args below meth c ls H locs C hW hS hl
  obtain ⟨hx, hb, hml, hr, hown, hts, hlk, hK⟩ := C
  have hl : lv_has ls 1 [(0, .ref (ad LX b 0 0))] := hl
  unfold dn_X_step at h
  refine lv_aload_n hx hb d_X_step_0 rfl (lv_at hl 0 rfl) ?_
  obtain ⟨z1, ez1, h⟩ := bnd h
  refine q_callVv (C := "DeficitNet") (As := []) (rest := []) hx hb hml hown hts hK hW hS (c_X_begin l G b z z1 ez1) f_X_begin t_301 ⟨rfl, rfl⟩ ⟨Nat.le_of_ble_eq_true rfl, Nat.le_of_ble_eq_true rfl⟩ (q_recv (L := LX) (kc := 0) (ki := 0) hK hW okX0 rfl rfl) rfl hl.1 rfl (Nat.le_of_ble_eq_true rfl) d_X_step_1 (fun H locs hW hS => ?_)
  refine lv_aload_n hx hb d_X_step_4 rfl (lv_at hl 0 rfl) ?_
  obtain ⟨⟨v2, z2⟩, er2, h⟩ := bnd h
  refine q_callVi (C := "DeficitNet") (As := []) (rest := []) hx hb hml hown hts hK hW hS (c_X_happen l G b z1 v2 z2 er2) f_X_happen t_309 ⟨rfl, rfl⟩ ⟨Nat.le_of_ble_eq_true rfl, Nat.le_of_ble_eq_true rfl⟩ (q_recv (L := LX) (kc := 0) (ki := 0) hK hW okX0 rfl rfl) rfl hl.1 rfl (Nat.le_of_ble_eq_true rfl) d_X_step_5 (fun H locs hW hS => ?_)
  obtain ⟨_, u3, h⟩ := bnd h
  exact q_zret hx hb hr hlk hK hW hS (bz_some u3) h d_X_step_8
set_option maxHeartbeats 4000000 in
set_option maxRecDepth 100000 in
theorem w_X_run_22 {p : Program} {l : Launch} {e : Env} {s : State} {m : MethodId} {args : Array Value} {below : List Frame} {meth : Method} {c : Code} {G : GG} {b : Nat} {r0 : Int32} {z0 : Mem} (C : Cx y_X_run b_X_run 3 (some .int) p s m args meth c G) {k40 : Int32 → Mem → Option (Int32 × Mem)} 
    (hk40 : ∀ (x2 : Int32) (z : Mem) (ls : Array Slot) (H : Heap) (locs : List Loc), Wd LX G b z H → va_S (rgL LX b) s.heap H locs → lv_has ls 3 [(2, .int x2)] → k40 x2 z = some (r0, z0) → W p l e rm_X_run s m args below meth c H locs 0 0 (MQ below (QI LX G b r0 z0) args s 0 0 (rgL LX b)) (F0 m 40 ls [])) :
    ∀ (n : Nat) (x1 : Int32) (x2 : Int32) (z : Mem) (ls : Array Slot) (H : Heap) (locs : List Loc), Wd LX G b z H → va_S (rgL LX b) s.heap H locs → lv_has ls 3 [(0, .ref (ad LX b 0 0)), (1, .int x1), (2, .int x2)] → dn_X_run_22 k40 n x1 x2 z = some (r0, z0) → W p l e rm_X_run s m args below meth c H locs 0 0 (MQ below (QI LX G b r0 z0) args s 0 0 (rgL LX b)) (F0 m 22 ls []) := by
  obtain ⟨hx, hb, hml, hr, hown, hts, hlk, hK⟩ := C
  intro n
  induction n with
  | zero =>
    intro x1 x2 z ls H locs  hW hS hl h
    cases h
  | succ n ih =>
    intro x1 x2 z ls H locs  hW hS hl h
    rw [dn_X_run_22] at h
    refine lv_iload_n hx hb d_X_run_22 rfl (lv_at hl 2 rfl) ?_
    refine lv_iload_n hx hb d_X_run_23 rfl (lv_at hl 1 rfl) ?_
    refine lv_icmp_ge (tgt := 40) hx hb d_X_run_24 (by decide) (fun hc => ?_) (fun hc => ?_)
    · have h := ite_t h hc
      exact hk40 x2 z ls H locs  hW hS (lv_sub hl [2] rfl) h
    · have h := ite_f h hc
      refine lv_aload_n hx hb d_X_run_27 rfl (lv_at hl 0 rfl) ?_
      obtain ⟨⟨v2, z2⟩, er2, h⟩ := bnd h
      refine q_callVi (C := "DeficitNet") (As := []) (rest := []) hx hb hml hown hts hK hW hS (c_X_happen l G b z v2 z2 er2) f_X_happen t_309 ⟨rfl, rfl⟩ ⟨Nat.le_of_ble_eq_true rfl, Nat.le_of_ble_eq_true rfl⟩ (q_recv (L := LX) (kc := 0) (ki := 0) hK hW okX0 rfl rfl) rfl hl.1 rfl (Nat.le_of_ble_eq_true rfl) d_X_run_28 (fun H locs hW hS => ?_)
      refine lv_if_eq (tgt := 40) hx hb d_X_run_31 (by decide) (fun hc => ?_) (fun hc => ?_)
      · have h := ite_t h hc
        exact hk40 x2 z2 ls H locs  hW hS (lv_sub hl [2] rfl) h
      · have h := ite_f h hc
        refine lv_iinc (k := 2) (v := (x2 + (1 : Int32))) hx hb d_X_run_34 hl rfl rfl (by decide) rfl (fun ls hl => ?_)
        have hl : lv_has ls 3 [(2, .int (x2 + (1 : Int32))), (0, .ref (ad LX b 0 0)), (1, .int x1)] := hl
        refine lv_goto (tgt := 22) hx hb d_X_run_37 (by decide) ?_
        exact ih x1 (x2 + (1 : Int32)) z2 ls H locs  hW hS (lv_sub hl [1, 2, 0] rfl) h
set_option maxHeartbeats 4000000 in
set_option maxRecDepth 100000 in
theorem c_X_run (l : Launch) (G : GG) (b : Nat) (x1 : Int32) (z : Mem) (r0 : Int32) (z0 : Mem) (h : dn_X_run x1 z = some (r0, z0)) : MtW l y_X_run b_X_run 3 (some .int) rm_X_run LX G b [.ref (ad LX b 0 0), .int x1] z (QI LX G b r0 z0) := by
  refine mtW_of (by decide) (Nat.le_of_ble_eq_true rfl) ?_
  intro p e s m args below meth c ls H locs C hW hS hl
  obtain ⟨hx, hb, hml, hr, hown, hts, hlk, hK⟩ := C
  have hl : lv_has ls 3 [(0, .ref (ad LX b 0 0)), (1, .int x1)] := hl
  unfold dn_X_run at h
  refine lv_iload_n hx hb d_X_run_0 rfl (lv_at hl 1 rfl) ?_
  refine lv_iconst (v := (0 : Int32)) hx hb d_X_run_1 (by decide) ?_
  refine lv_bipush (v := (50 : Int32)) hx hb d_X_run_2 (by decide) ?_
  obtain ⟨v1, ev1, h⟩ := bnd h
  refine q_callPi (As := [.int x1, .int (0 : Int32), .int (50 : Int32)]) (rest := []) hx hb hml hown hts hW hS (c_X_isWithin l x1 (0 : Int32) (50 : Int32) v1 ev1) f_X_isWithin t_260 ⟨rfl, rfl⟩ ⟨Nat.le_of_ble_eq_true rfl, Nat.le_of_ble_eq_true rfl⟩ rfl hl.1 rfl (Nat.le_of_ble_eq_true rfl) d_X_run_4 (fun H locs hW hS => ?_)
  refine lv_if_ne (tgt := 12) hx hb d_X_run_7 (by decide) (fun hc => ?_) (fun hc => ?_)
  · have h := ite_f h hc
    refine lv_iload_n hx hb d_X_run_12 rfl (lv_at hl 1 rfl) ?_
    refine lv_if_le (tgt := 20) hx hb d_X_run_13 (by decide) (fun hc => ?_) (fun hc => ?_)
    · have h := ite_t h hc
      refine lv_iconst (v := (0 : Int32)) hx hb d_X_run_20 (by decide) ?_
      refine lv_istore_n hx hb d_X_run_21 rfl hl (by decide) rfl (fun ls hl => ?_)
      have hl : lv_has ls 3 [(2, .int (0 : Int32)), (0, .ref (ad LX b 0 0)), (1, .int x1)] := hl
      refine w_X_run_22 ⟨hx, hb, hml, hr, hown, hts, hlk, hK⟩ (fun x2 z3 ls H locs  hW hS hl h => ?_) FU x1 (0 : Int32) z ls H locs  hW hS (lv_sub hl [1, 2, 0] rfl) h
      · refine lv_iload_n hx hb d_X_run_40 rfl (lv_at hl 0 rfl) ?_
        exact q_iret hx hb hr hlk hK hW hS h d_X_run_41
    · have h := ite_f h hc
      refine lv_aload_n hx hb d_X_run_16 rfl (lv_at hl 0 rfl) ?_
      obtain ⟨z4, ez4, h⟩ := bnd h
      refine q_callVv (C := "DeficitNet") (As := []) (rest := []) hx hb hml hown hts hK hW hS (c_X_begin l G b z z4 ez4) f_X_begin t_301 ⟨rfl, rfl⟩ ⟨Nat.le_of_ble_eq_true rfl, Nat.le_of_ble_eq_true rfl⟩ (q_recv (L := LX) (kc := 0) (ki := 0) hK hW okX0 rfl rfl) rfl hl.1 rfl (Nat.le_of_ble_eq_true rfl) d_X_run_17 (fun H locs hW hS => ?_)
      refine lv_iconst (v := (0 : Int32)) hx hb d_X_run_20 (by decide) ?_
      refine lv_istore_n hx hb d_X_run_21 rfl hl (by decide) rfl (fun ls hl => ?_)
      have hl : lv_has ls 3 [(2, .int (0 : Int32)), (0, .ref (ad LX b 0 0)), (1, .int x1)] := hl
      refine w_X_run_22 ⟨hx, hb, hml, hr, hown, hts, hlk, hK⟩ (fun x2 z5 ls H locs  hW hS hl h => ?_) FU x1 (0 : Int32) z4 ls H locs  hW hS (lv_sub hl [1, 2, 0] rfl) h
      · refine lv_iload_n hx hb d_X_run_40 rfl (lv_at hl 0 rfl) ?_
        exact q_iret hx hb hr hlk hK hW hS h d_X_run_41
  · have h := ite_t h hc
    refine lv_iconst (v := (-1 : Int32)) hx hb d_X_run_10 (by decide) ?_
    exact q_iret hx hb hr hlk hK hW hS h d_X_run_11
set_option maxHeartbeats 4000000 in
set_option maxRecDepth 100000 in
theorem c_X_now (l : Launch) (G : GG) (b : Nat) (z : Mem) (r0 : Int32) (z0 : Mem) (h : dn_X_now z = some (r0, z0)) : MtW l y_X_now b_X_now 1 (some .int) rm_X_now LX G b [.ref (ad LX b 0 0)] z (QI LX G b r0 z0) := by
  refine mtW_of (by decide) (Nat.le_of_ble_eq_true rfl) ?_
  intro p e s m args below meth c ls H locs C hW hS hl
  obtain ⟨hx, hb, hml, hr, hown, hts, hlk, hK⟩ := C
  have hl : lv_has ls 1 [(0, .ref (ad LX b 0 0))] := hl
  unfold dn_X_now at h
  refine lv_aload_n hx hb d_X_now_0 rfl (lv_at hl 0 rfl) ?_
  refine q_get (L := LX) (kc := 0) (ki := 0) (C := "DeficitNet") (T := T_X) (N := 10) (ci := 0) (v := .int (z.1 0 0 8)) hx hb hts in_X hown hK hW okX0 rfl rfl 8 (by decide) t_229 rfl d_X_now_1 ?_
  exact q_iret hx hb hr hlk hK hW hS h d_X_now_4
set_option maxHeartbeats 4000000 in
set_option maxRecDepth 100000 in
theorem c_X_trace (l : Launch) (G : GG) (b : Nat) (x1 : Int32) (z : Mem) (r0 : Int64) (z0 : Mem) (h : dn_X_trace x1 z = some (r0, z0)) : MtW l y_X_trace b_X_trace 2 (some .long) rm_X_trace LX G b [.ref (ad LX b 0 0), .int x1] z (QJ LX G b r0 z0) := by
  refine mtW_of (by decide) (Nat.le_of_ble_eq_true rfl) ?_
  intro p e s m args below meth c ls H locs C hW hS hl
  obtain ⟨hx, hb, hml, hr, hown, hts, hlk, hK⟩ := C
  have hl : lv_has ls 2 [(0, .ref (ad LX b 0 0)), (1, .int x1)] := hl
  unfold dn_X_trace at h
  refine lv_iload_n hx hb d_X_trace_0 rfl (lv_at hl 1 rfl) ?_
  refine lv_iconst (v := (0 : Int32)) hx hb d_X_trace_1 (by decide) ?_
  refine lv_bipush (v := (15 : Int32)) hx hb d_X_trace_2 (by decide) ?_
  obtain ⟨v1, ev1, h⟩ := bnd h
  refine q_callPi (As := [.int x1, .int (0 : Int32), .int (15 : Int32)]) (rest := []) hx hb hml hown hts hW hS (c_X_isWithin l x1 (0 : Int32) (15 : Int32) v1 ev1) f_X_isWithin t_260 ⟨rfl, rfl⟩ ⟨Nat.le_of_ble_eq_true rfl, Nat.le_of_ble_eq_true rfl⟩ rfl hl.1 rfl (Nat.le_of_ble_eq_true rfl) d_X_trace_4 (fun H locs hW hS => ?_)
  refine lv_if_eq (tgt := 19) hx hb d_X_trace_7 (by decide) (fun hc => ?_) (fun hc => ?_)
  · have h := ite_t h hc
    refine lv_ldc2 (v := (-1 : Int64)) hx hb hown (hts _ t_217) d_X_trace_19 ?_
    exact q_jret hx hb hr hlk hK hW hS h d_X_trace_22
  · have h := ite_f h hc
    refine lv_aload_n hx hb d_X_trace_10 rfl (lv_at hl 0 rfl) ?_
    refine q_get (L := LX) (kc := 0) (ki := 0) (C := "DeficitNet") (T := T_X) (N := 10) (ci := 0) (v := .ref (ad LX b 16 0)) hx hb hts in_X hown hK hW okX0 rfl rfl 5 (by decide) t_226 rfl d_X_trace_11 ?_
    refine lv_iload_n hx hb d_X_trace_14 rfl (lv_at hl 1 rfl) ?_
    obtain ⟨j2, ej2, h⟩ := bnd h
    refine q_lald (L := LX) (kc := 16) (ki := 0) hx hb hK hW okX16 rfl ej2 d_X_trace_15 ?_
    refine lv_goto (tgt := 22) hx hb d_X_trace_16 (by decide) ?_
    exact q_jret hx hb hr hlk hK hW hS h d_X_trace_22
set_option maxHeartbeats 4000000 in
set_option maxRecDepth 100000 in
theorem c_X_distance (l : Launch) (G : GG) (b : Nat) (x1 : Int32) (x2 : Int32) (z : Mem) (r0 : Int32) (z0 : Mem) (h : dn_X_distance x1 x2 z = some (r0, z0)) : MtW l y_X_distance b_X_distance 3 (some .int) rm_X_distance LX G b [.ref (ad LX b 0 0), .int x1, .int x2] z (QI LX G b r0 z0) := by
  refine mtW_of (by decide) (Nat.le_of_ble_eq_true rfl) ?_
  intro p e s m args below meth c ls H locs C hW hS hl
  obtain ⟨hx, hb, hml, hr, hown, hts, hlk, hK⟩ := C
  have hl : lv_has ls 3 [(0, .ref (ad LX b 0 0)), (1, .int x1), (2, .int x2)] := hl
  unfold dn_X_distance at h
  refine lv_iload_n hx hb d_X_distance_0 rfl (lv_at hl 1 rfl) ?_
  obtain ⟨v1, ev1, h⟩ := bnd h
  refine q_callPi (As := [.int x1]) (rest := []) hx hb hml hown hts hW hS (c_X_isNode l x1 v1 ev1) f_X_isNode t_257 ⟨rfl, rfl⟩ ⟨Nat.le_of_ble_eq_true rfl, Nat.le_of_ble_eq_true rfl⟩ rfl hl.1 rfl (Nat.le_of_ble_eq_true rfl) d_X_distance_1 (fun H locs hW hS => ?_)
  refine lv_if_eq (tgt := 25) hx hb d_X_distance_4 (by decide) (fun hc => ?_) (fun hc => ?_)
  · have h := ite_t h hc
    refine lv_iconst (v := (-1 : Int32)) hx hb d_X_distance_25 (by decide) ?_
    exact q_iret hx hb hr hlk hK hW hS h d_X_distance_26
  · have h := ite_f h hc
    refine lv_iload_n hx hb d_X_distance_7 rfl (lv_at hl 2 rfl) ?_
    obtain ⟨v2, ev2, h⟩ := bnd h
    refine q_callPi (As := [.int x2]) (rest := []) hx hb hml hown hts hW hS (c_X_isNode l x2 v2 ev2) f_X_isNode t_257 ⟨rfl, rfl⟩ ⟨Nat.le_of_ble_eq_true rfl, Nat.le_of_ble_eq_true rfl⟩ rfl hl.1 rfl (Nat.le_of_ble_eq_true rfl) d_X_distance_8 (fun H locs hW hS => ?_)
    refine lv_if_eq (tgt := 25) hx hb d_X_distance_11 (by decide) (fun hc => ?_) (fun hc => ?_)
    · have h := ite_t h hc
      refine lv_iconst (v := (-1 : Int32)) hx hb d_X_distance_25 (by decide) ?_
      exact q_iret hx hb hr hlk hK hW hS h d_X_distance_26
    · have h := ite_f h hc
      refine lv_aload_n hx hb d_X_distance_14 rfl (lv_at hl 0 rfl) ?_
      refine q_get (L := LX) (kc := 0) (ki := 0) (C := "DeficitNet") (T := T_X) (N := 10) (ci := 0) (v := .ref (ad LX b 1 0)) hx hb hts in_X hown hK hW okX0 rfl rfl 0 (by decide) t_221 rfl d_X_distance_15 ?_
      refine lv_iload_n hx hb d_X_distance_18 rfl (lv_at hl 1 rfl) ?_
      obtain ⟨j3, ej3, h⟩ := bnd h
      refine q_aald (t0 := 3) (ty := (.array .int)) (kd := 2) (L := LX) (kc := 1) (ki := 0) hx hb hK hW okX1 rfl rfl rfl ej3 d_X_distance_19 ?_
      refine lv_iload_n hx hb d_X_distance_20 rfl (lv_at hl 2 rfl) ?_
      obtain ⟨j4, ej4, h⟩ := bnd h
      refine q_iald (L := LX) (kc := 2) (ki := j3) hx hb hK hW (okX2 (aix_lt ej3)) rfl ej4 d_X_distance_21 ?_
      refine lv_goto (tgt := 26) hx hb d_X_distance_22 (by decide) ?_
      exact q_iret hx hb hr hlk hK hW hS h d_X_distance_26
set_option maxHeartbeats 4000000 in
set_option maxRecDepth 100000 in
theorem c_X_waiting (l : Launch) (G : GG) (b : Nat) (x1 : Int32) (x2 : Int32) (z : Mem) (r0 : Int32) (z0 : Mem) (h : dn_X_waiting x1 x2 z = some (r0, z0)) : MtW l y_X_waiting b_X_waiting 3 (some .int) rm_X_waiting LX G b [.ref (ad LX b 0 0), .int x1, .int x2] z (QI LX G b r0 z0) := by
  refine mtW_of (by decide) (Nat.le_of_ble_eq_true rfl) ?_
  intro p e s m args below meth c ls H locs C hW hS hl
  obtain ⟨hx, hb, hml, hr, hown, hts, hlk, hK⟩ := C
  have hl : lv_has ls 3 [(0, .ref (ad LX b 0 0)), (1, .int x1), (2, .int x2)] := hl
  unfold dn_X_waiting at h
  refine lv_aload_n hx hb d_X_waiting_0 rfl (lv_at hl 0 rfl) ?_
  refine lv_iload_n hx hb d_X_waiting_1 rfl (lv_at hl 1 rfl) ?_
  obtain ⟨⟨v1, z1⟩, er1, h⟩ := bnd h
  refine q_callVi (C := "DeficitNet") (As := [.int x1]) (rest := []) hx hb hml hown hts hK hW hS (c_X_isPort l G b x1 z v1 z1 er1) f_X_isPort t_276 ⟨rfl, rfl⟩ ⟨Nat.le_of_ble_eq_true rfl, Nat.le_of_ble_eq_true rfl⟩ (q_recv (L := LX) (kc := 0) (ki := 0) hK hW okX0 rfl rfl) rfl hl.1 rfl (Nat.le_of_ble_eq_true rfl) d_X_waiting_2 (fun H locs hW hS => ?_)
  refine lv_if_ne (tgt := 10) hx hb d_X_waiting_5 (by decide) (fun hc => ?_) (fun hc => ?_)
  · have h := ite_f h hc
    refine lv_iload_n hx hb d_X_waiting_10 rfl (lv_at hl 2 rfl) ?_
    refine lv_iconst (v := (-1 : Int32)) hx hb d_X_waiting_11 (by decide) ?_
    refine lv_icmp_ne (tgt := 25) hx hb d_X_waiting_12 (by decide) (fun hc => ?_) (fun hc => ?_)
    · have h := ite_f h hc
      refine lv_aload_n hx hb d_X_waiting_25 rfl (lv_at hl 0 rfl) ?_
      refine lv_iload_n hx hb d_X_waiting_26 rfl (lv_at hl 2 rfl) ?_
      obtain ⟨⟨v2, z2⟩, er2, h⟩ := bnd h
      refine q_callVi (C := "DeficitNet") (As := [.int x2]) (rest := []) hx hb hml hown hts hK hW hS (c_X_isFlow l G b x2 z1 v2 z2 er2) f_X_isFlow t_292 ⟨rfl, rfl⟩ ⟨Nat.le_of_ble_eq_true rfl, Nat.le_of_ble_eq_true rfl⟩ (q_recv (L := LX) (kc := 0) (ki := 0) hK hW okX0 rfl rfl) rfl hl.1 rfl (Nat.le_of_ble_eq_true rfl) d_X_waiting_27 (fun H locs hW hS => ?_)
      refine lv_if_eq (tgt := 47) hx hb d_X_waiting_30 (by decide) (fun hc => ?_) (fun hc => ?_)
      · have h := ite_t h hc
        refine lv_iconst (v := (-1 : Int32)) hx hb d_X_waiting_47 (by decide) ?_
        exact q_iret hx hb hr hlk hK hW hS h d_X_waiting_48
      · have h := ite_f h hc
        refine lv_aload_n hx hb d_X_waiting_33 rfl (lv_at hl 0 rfl) ?_
        refine lv_aload_n hx hb d_X_waiting_34 rfl (lv_at hl 0 rfl) ?_
        refine q_get (L := LX) (kc := 0) (ki := 0) (C := "DeficitNet") (T := T_X) (N := 10) (ci := 0) (v := .ref (ad LX b 3 0)) hx hb hts in_X hown hK hW okX0 rfl rfl 1 (by decide) t_222 rfl d_X_waiting_35 ?_
        refine lv_iload_n hx hb d_X_waiting_38 rfl (lv_at hl 1 rfl) ?_
        obtain ⟨j3, ej3, h⟩ := bnd h
        refine q_aald (t0 := 4) (ty := (.object "DeficitNet$Port")) (kd := 4) (L := LX) (kc := 3) (ki := 0) hx hb hK hW okX3 rfl rfl rfl ej3 d_X_waiting_39 ?_
        refine lv_iload_n hx hb d_X_waiting_40 rfl (lv_at hl 2 rfl) ?_
        obtain ⟨⟨v4, z4⟩, er4, h⟩ := bnd h
        refine q_callVi (C := "DeficitNet") (As := [.ref (ad LX b 4 j3), .int x2]) (rest := []) hx hb hml hown hts hK hW hS (c_X_queuedOf l G b j3 x2 z2 v4 z4 (aix_lt ej3) er4) f_X_queuedOf t_369 ⟨rfl, rfl⟩ ⟨Nat.le_of_ble_eq_true rfl, Nat.le_of_ble_eq_true rfl⟩ (q_recv (L := LX) (kc := 0) (ki := 0) hK hW okX0 rfl rfl) rfl hl.1 rfl (Nat.le_of_ble_eq_true rfl) d_X_waiting_41 (fun H locs hW hS => ?_)
        refine lv_goto (tgt := 48) hx hb d_X_waiting_44 (by decide) ?_
        exact q_iret hx hb hr hlk hK hW hS h d_X_waiting_48
    · have h := ite_t h hc
      refine lv_aload_n hx hb d_X_waiting_15 rfl (lv_at hl 0 rfl) ?_
      refine q_get (L := LX) (kc := 0) (ki := 0) (C := "DeficitNet") (T := T_X) (N := 10) (ci := 0) (v := .ref (ad LX b 3 0)) hx hb hts in_X hown hK hW okX0 rfl rfl 1 (by decide) t_222 rfl d_X_waiting_16 ?_
      refine lv_iload_n hx hb d_X_waiting_19 rfl (lv_at hl 1 rfl) ?_
      obtain ⟨j5, ej5, h⟩ := bnd h
      refine q_aald (t0 := 4) (ty := (.object "DeficitNet$Port")) (kd := 4) (L := LX) (kc := 3) (ki := 0) hx hb hK hW okX3 rfl rfl rfl ej5 d_X_waiting_20 ?_
      refine q_get (L := LX) (kc := 4) (ki := j5) (C := "DeficitNet$Port") (T := T_P) (N := 14) (ci := 4) (v := .int (z1.1 4 j5 8)) hx hb hts in_P hown hK hW (okX4 (aix_lt ej5)) rfl rfl 8 (by decide) t_44 rfl d_X_waiting_21 ?_
      exact q_iret hx hb hr hlk hK hW hS h d_X_waiting_24
  · have h := ite_t h hc
    refine lv_iconst (v := (-1 : Int32)) hx hb d_X_waiting_8 (by decide) ?_
    exact q_iret hx hb hr hlk hK hW hS h d_X_waiting_9
set_option maxHeartbeats 4000000 in
set_option maxRecDepth 100000 in
theorem c_X_deficit (l : Launch) (G : GG) (b : Nat) (x1 : Int32) (x2 : Int32) (z : Mem) (r0 : Int32) (z0 : Mem) (h : dn_X_deficit x1 x2 z = some (r0, z0)) : MtW l y_X_deficit b_X_deficit 3 (some .int) rm_X_deficit LX G b [.ref (ad LX b 0 0), .int x1, .int x2] z (QI LX G b r0 z0) := by
  refine mtW_of (by decide) (Nat.le_of_ble_eq_true rfl) ?_
  intro p e s m args below meth c ls H locs C hW hS hl
  obtain ⟨hx, hb, hml, hr, hown, hts, hlk, hK⟩ := C
  have hl : lv_has ls 3 [(0, .ref (ad LX b 0 0)), (1, .int x1), (2, .int x2)] := hl
  unfold dn_X_deficit at h
  refine lv_aload_n hx hb d_X_deficit_0 rfl (lv_at hl 0 rfl) ?_
  refine lv_iload_n hx hb d_X_deficit_1 rfl (lv_at hl 1 rfl) ?_
  obtain ⟨⟨v1, z1⟩, er1, h⟩ := bnd h
  refine q_callVi (C := "DeficitNet") (As := [.int x1]) (rest := []) hx hb hml hown hts hK hW hS (c_X_isPort l G b x1 z v1 z1 er1) f_X_isPort t_276 ⟨rfl, rfl⟩ ⟨Nat.le_of_ble_eq_true rfl, Nat.le_of_ble_eq_true rfl⟩ (q_recv (L := LX) (kc := 0) (ki := 0) hK hW okX0 rfl rfl) rfl hl.1 rfl (Nat.le_of_ble_eq_true rfl) d_X_deficit_2 (fun H locs hW hS => ?_)
  refine lv_if_eq (tgt := 30) hx hb d_X_deficit_5 (by decide) (fun hc => ?_) (fun hc => ?_)
  · have h := ite_t h hc
    refine lv_iconst (v := (-1 : Int32)) hx hb d_X_deficit_30 (by decide) ?_
    exact q_iret hx hb hr hlk hK hW hS h d_X_deficit_31
  · have h := ite_f h hc
    refine lv_aload_n hx hb d_X_deficit_8 rfl (lv_at hl 0 rfl) ?_
    refine lv_iload_n hx hb d_X_deficit_9 rfl (lv_at hl 2 rfl) ?_
    obtain ⟨⟨v2, z2⟩, er2, h⟩ := bnd h
    refine q_callVi (C := "DeficitNet") (As := [.int x2]) (rest := []) hx hb hml hown hts hK hW hS (c_X_isFlow l G b x2 z1 v2 z2 er2) f_X_isFlow t_292 ⟨rfl, rfl⟩ ⟨Nat.le_of_ble_eq_true rfl, Nat.le_of_ble_eq_true rfl⟩ (q_recv (L := LX) (kc := 0) (ki := 0) hK hW okX0 rfl rfl) rfl hl.1 rfl (Nat.le_of_ble_eq_true rfl) d_X_deficit_10 (fun H locs hW hS => ?_)
    refine lv_if_eq (tgt := 30) hx hb d_X_deficit_13 (by decide) (fun hc => ?_) (fun hc => ?_)
    · have h := ite_t h hc
      refine lv_iconst (v := (-1 : Int32)) hx hb d_X_deficit_30 (by decide) ?_
      exact q_iret hx hb hr hlk hK hW hS h d_X_deficit_31
    · have h := ite_f h hc
      refine lv_aload_n hx hb d_X_deficit_16 rfl (lv_at hl 0 rfl) ?_
      refine q_get (L := LX) (kc := 0) (ki := 0) (C := "DeficitNet") (T := T_X) (N := 10) (ci := 0) (v := .ref (ad LX b 3 0)) hx hb hts in_X hown hK hW okX0 rfl rfl 1 (by decide) t_222 rfl d_X_deficit_17 ?_
      refine lv_iload_n hx hb d_X_deficit_20 rfl (lv_at hl 1 rfl) ?_
      obtain ⟨j3, ej3, h⟩ := bnd h
      refine q_aald (t0 := 4) (ty := (.object "DeficitNet$Port")) (kd := 4) (L := LX) (kc := 3) (ki := 0) hx hb hK hW okX3 rfl rfl rfl ej3 d_X_deficit_21 ?_
      refine q_get (L := LX) (kc := 4) (ki := j3) (C := "DeficitNet$Port") (T := T_P) (N := 14) (ci := 4) (v := .ref (ad LX b 7 j3)) hx hb hts in_P hown hK hW (okX4 (aix_lt ej3)) rfl rfl 13 (by decide) t_52 rfl d_X_deficit_22 ?_
      refine lv_iload_n hx hb d_X_deficit_25 rfl (lv_at hl 2 rfl) ?_
      obtain ⟨j4, ej4, h⟩ := bnd h
      refine q_iald (L := LX) (kc := 7) (ki := j3) hx hb hK hW (okX7 (aix_lt ej3)) rfl ej4 d_X_deficit_26 ?_
      refine lv_goto (tgt := 31) hx hb d_X_deficit_27 (by decide) ?_
      exact q_iret hx hb hr hlk hK hW hS h d_X_deficit_31
set_option maxHeartbeats 4000000 in
set_option maxRecDepth 100000 in
theorem c_X_onPort (l : Launch) (G : GG) (b : Nat) (x1 : Int32) (z : Mem) (r0 : Int32) (z0 : Mem) (h : dn_X_onPort x1 z = some (r0, z0)) : MtW l y_X_onPort b_X_onPort 3 (some .int) rm_X_onPort LX G b [.ref (ad LX b 0 0), .int x1] z (QI LX G b r0 z0) := by
  refine mtW_of (by decide) (Nat.le_of_ble_eq_true rfl) ?_
  intro p e s m args below meth c ls H locs C hW hS hl
  obtain ⟨hx, hb, hml, hr, hown, hts, hlk, hK⟩ := C
  have hl : lv_has ls 3 [(0, .ref (ad LX b 0 0)), (1, .int x1)] := hl
  unfold dn_X_onPort at h
  refine lv_aload_n hx hb d_X_onPort_0 rfl (lv_at hl 0 rfl) ?_
  refine lv_iload_n hx hb d_X_onPort_1 rfl (lv_at hl 1 rfl) ?_
  obtain ⟨⟨v1, z1⟩, er1, h⟩ := bnd h
  refine q_callVi (C := "DeficitNet") (As := [.int x1]) (rest := []) hx hb hml hown hts hK hW hS (c_X_isPort l G b x1 z v1 z1 er1) f_X_isPort t_276 ⟨rfl, rfl⟩ ⟨Nat.le_of_ble_eq_true rfl, Nat.le_of_ble_eq_true rfl⟩ (q_recv (L := LX) (kc := 0) (ki := 0) hK hW okX0 rfl rfl) rfl hl.1 rfl (Nat.le_of_ble_eq_true rfl) d_X_onPort_2 (fun H locs hW hS => ?_)
  refine lv_if_eq (tgt := 21) hx hb d_X_onPort_5 (by decide) (fun hc => ?_) (fun hc => ?_)
  · have h := ite_t h hc
    refine lv_iconst (v := (-1 : Int32)) hx hb d_X_onPort_21 (by decide) ?_
    exact q_iret hx hb hr hlk hK hW hS h d_X_onPort_22
  · have h := ite_f h hc
    refine lv_aload_n hx hb d_X_onPort_8 rfl (lv_at hl 0 rfl) ?_
    refine q_get (L := LX) (kc := 0) (ki := 0) (C := "DeficitNet") (T := T_X) (N := 10) (ci := 0) (v := .ref (ad LX b 3 0)) hx hb hts in_X hown hK hW okX0 rfl rfl 1 (by decide) t_222 rfl d_X_onPort_9 ?_
    refine lv_iload_n hx hb d_X_onPort_12 rfl (lv_at hl 1 rfl) ?_
    obtain ⟨j2, ej2, h⟩ := bnd h
    refine q_aald (t0 := 4) (ty := (.object "DeficitNet$Port")) (kd := 4) (L := LX) (kc := 3) (ki := 0) hx hb hK hW okX3 rfl rfl rfl ej2 d_X_onPort_13 ?_
    refine q_get (L := LX) (kc := 4) (ki := j2) (C := "DeficitNet$Port") (T := T_P) (N := 14) (ci := 4) (v := .int (z1.1 4 j2 7)) hx hb hts in_P hown hK hW (okX4 (aix_lt ej2)) rfl rfl 7 (by decide) t_42 rfl d_X_onPort_14 ?_
    refine lv_iconst (v := (-1 : Int32)) hx hb d_X_onPort_17 (by decide) ?_
    refine lv_icmp_ne (tgt := 23) hx hb d_X_onPort_18 (by decide) (fun hc => ?_) (fun hc => ?_)
    · have h := ite_f h hc
      refine lv_aload_n hx hb d_X_onPort_23 rfl (lv_at hl 0 rfl) ?_
      refine q_get (L := LX) (kc := 0) (ki := 0) (C := "DeficitNet") (T := T_X) (N := 10) (ci := 0) (v := .ref (ad LX b 10 0)) hx hb hts in_X hown hK hW okX0 rfl rfl 3 (by decide) t_224 rfl d_X_onPort_24 ?_
      refine lv_aload_n hx hb d_X_onPort_27 rfl (lv_at hl 0 rfl) ?_
      refine q_get (L := LX) (kc := 0) (ki := 0) (C := "DeficitNet") (T := T_X) (N := 10) (ci := 0) (v := .ref (ad LX b 3 0)) hx hb hts in_X hown hK hW okX0 rfl rfl 1 (by decide) t_222 rfl d_X_onPort_28 ?_
      refine lv_iload_n hx hb d_X_onPort_31 rfl (lv_at hl 1 rfl) ?_
      obtain ⟨j3, ej3, h⟩ := bnd h
      refine q_aald (t0 := 4) (ty := (.object "DeficitNet$Port")) (kd := 4) (L := LX) (kc := 3) (ki := 0) hx hb hK hW okX3 rfl rfl rfl ej3 d_X_onPort_32 ?_
      refine q_get (L := LX) (kc := 4) (ki := j3) (C := "DeficitNet$Port") (T := T_P) (N := 14) (ci := 4) (v := .int (z1.1 4 j3 7)) hx hb hts in_P hown hK hW (okX4 (aix_lt ej3)) rfl rfl 7 (by decide) t_42 rfl d_X_onPort_33 ?_
      obtain ⟨j4, ej4, h⟩ := bnd h
      refine q_aald (t0 := 6) (ty := (.object "DeficitNet$Packet")) (kd := 11) (L := LX) (kc := 10) (ki := 0) hx hb hK hW okX10 rfl rfl rfl ej4 d_X_onPort_36 ?_
      refine lv_astore_n hx hb d_X_onPort_37 rfl hl (by decide) rfl (fun ls hl => ?_)
      have hl : lv_has ls 3 [(2, .ref (ad LX b 11 j4)), (0, .ref (ad LX b 0 0)), (1, .int x1)] := hl
      refine lv_sipush (v := (256 : Int32)) hx hb d_X_onPort_38 (by decide) ?_
      refine lv_aload_n hx hb d_X_onPort_41 rfl (lv_at hl 0 rfl) ?_
      refine q_get (L := LX) (kc := 11) (ki := j4) (C := "DeficitNet$Packet") (T := T_K) (N := 7) (ci := 3) (v := .int (z1.1 11 j4 2)) hx hb hts in_K hown hK hW (okX11 (aix_lt ej4)) rfl rfl 2 (by decide) t_161 rfl d_X_onPort_42 ?_
      refine lv_imul hx hb d_X_onPort_45 ?_
      refine lv_aload_n hx hb d_X_onPort_46 rfl (lv_at hl 0 rfl) ?_
      obtain ⟨⟨v5, z5⟩, er5, h⟩ := bnd h
      refine q_callVi (C := "DeficitNet$Packet") (As := []) (rest := [.int ((256 : Int32) * (z1.1 11 j4 2))]) hx hb hml hown hts hK hW hS (c_K_label l G b j4 z1 v5 z5 (aix_lt ej4) er5) f_K_label t_402 ⟨rfl, rfl⟩ ⟨Nat.le_of_ble_eq_true rfl, Nat.le_of_ble_eq_true rfl⟩ (q_recv (L := LX) (kc := 11) (ki := j4) hK hW (okX11 (aix_lt ej4)) rfl rfl) rfl hl.1 rfl (Nat.le_of_ble_eq_true rfl) d_X_onPort_47 (fun H locs hW hS => ?_)
      refine lv_iadd hx hb d_X_onPort_50 ?_
      exact q_iret hx hb hr hlk hK hW hS h d_X_onPort_51
    · have h := ite_t h hc
      refine lv_iconst (v := (-1 : Int32)) hx hb d_X_onPort_21 (by decide) ?_
      exact q_iret hx hb hr hlk hK hW hS h d_X_onPort_22
set_option maxHeartbeats 4000000 in
set_option maxRecDepth 100000 in
theorem c_X_timer (l : Launch) (G : GG) (b : Nat) (x1 : Int32) (z : Mem) (r0 : Int32) (z0 : Mem) (h : dn_X_timer x1 z = some (r0, z0)) : MtW l y_X_timer b_X_timer 2 (some .int) rm_X_timer LX G b [.ref (ad LX b 0 0), .int x1] z (QI LX G b r0 z0) := by
  refine mtW_of (by decide) (Nat.le_of_ble_eq_true rfl) ?_
  intro p e s m args below meth c ls H locs C hW hS hl
  obtain ⟨hx, hb, hml, hr, hown, hts, hlk, hK⟩ := C
  have hl : lv_has ls 2 [(0, .ref (ad LX b 0 0)), (1, .int x1)] := hl
  unfold dn_X_timer at h
  refine lv_aload_n hx hb d_X_timer_0 rfl (lv_at hl 0 rfl) ?_
  refine lv_iload_n hx hb d_X_timer_1 rfl (lv_at hl 1 rfl) ?_
  obtain ⟨⟨v1, z1⟩, er1, h⟩ := bnd h
  refine q_callVi (C := "DeficitNet") (As := [.int x1]) (rest := []) hx hb hml hown hts hK hW hS (c_X_isFlow l G b x1 z v1 z1 er1) f_X_isFlow t_292 ⟨rfl, rfl⟩ ⟨Nat.le_of_ble_eq_true rfl, Nat.le_of_ble_eq_true rfl⟩ (q_recv (L := LX) (kc := 0) (ki := 0) hK hW okX0 rfl rfl) rfl hl.1 rfl (Nat.le_of_ble_eq_true rfl) d_X_timer_2 (fun H locs hW hS => ?_)
  refine lv_if_eq (tgt := 28) hx hb d_X_timer_5 (by decide) (fun hc => ?_) (fun hc => ?_)
  · have h := ite_t h hc
    refine lv_iconst (v := (-1 : Int32)) hx hb d_X_timer_28 (by decide) ?_
    exact q_iret hx hb hr hlk hK hW hS h d_X_timer_29
  · have h := ite_f h hc
    refine lv_aload_n hx hb d_X_timer_8 rfl (lv_at hl 0 rfl) ?_
    refine lv_iload_n hx hb d_X_timer_9 rfl (lv_at hl 1 rfl) ?_
    obtain ⟨⟨v2, z2⟩, er2, h⟩ := bnd h
    refine q_callVi (C := "DeficitNet") (As := [.int x1]) (rest := []) hx hb hml hown hts hK hW hS (c_X_hasTimer l G b x1 z1 v2 z2 er2) f_X_hasTimer t_345 ⟨rfl, rfl⟩ ⟨Nat.le_of_ble_eq_true rfl, Nat.le_of_ble_eq_true rfl⟩ (q_recv (L := LX) (kc := 0) (ki := 0) hK hW okX0 rfl rfl) rfl hl.1 rfl (Nat.le_of_ble_eq_true rfl) d_X_timer_10 (fun H locs hW hS => ?_)
    refine lv_if_eq (tgt := 28) hx hb d_X_timer_13 (by decide) (fun hc => ?_) (fun hc => ?_)
    · have h := ite_t h hc
      refine lv_iconst (v := (-1 : Int32)) hx hb d_X_timer_28 (by decide) ?_
      exact q_iret hx hb hr hlk hK hW hS h d_X_timer_29
    · have h := ite_f h hc
      refine lv_aload_n hx hb d_X_timer_16 rfl (lv_at hl 0 rfl) ?_
      refine q_get (L := LX) (kc := 0) (ki := 0) (C := "DeficitNet") (T := T_X) (N := 10) (ci := 0) (v := .ref (ad LX b 12 0)) hx hb hts in_X hown hK hW okX0 rfl rfl 4 (by decide) t_225 rfl d_X_timer_17 ?_
      refine q_get (L := LX) (kc := 12) (ki := 0) (C := "DeficitNet$Agenda") (T := T_A) (N := 4) (ci := 1) (v := .ref (ad LX b 14 0)) hx hb hts in_A hown hK hW okX12 rfl rfl 1 (by decide) t_193 rfl d_X_timer_20 ?_
      refine lv_iload_n hx hb d_X_timer_23 rfl (lv_at hl 1 rfl) ?_
      obtain ⟨j3, ej3, h⟩ := bnd h
      refine q_iald (L := LX) (kc := 14) (ki := 0) hx hb hK hW okX14 rfl ej3 d_X_timer_24 ?_
      refine lv_goto (tgt := 29) hx hb d_X_timer_25 (by decide) ?_
      exact q_iret hx hb hr hlk hK hW hS h d_X_timer_29
set_option maxHeartbeats 4000000 in
set_option maxRecDepth 100000 in
theorem c_X_count (l : Launch) (G : GG) (b : Nat) (x1 : Int32) (x2 : Int32) (z : Mem) (r0 : Int32) (z0 : Mem) (h : dn_X_count x1 x2 z = some (r0, z0)) : MtW l y_X_count b_X_count 3 (some .int) rm_X_count LX G b [.ref (ad LX b 0 0), .int x1, .int x2] z (QI LX G b r0 z0) := by
  refine mtW_of (by decide) (Nat.le_of_ble_eq_true rfl) ?_
  intro p e s m args below meth c ls H locs C hW hS hl
  obtain ⟨hx, hb, hml, hr, hown, hts, hlk, hK⟩ := C
  have hl : lv_has ls 3 [(0, .ref (ad LX b 0 0)), (1, .int x1), (2, .int x2)] := hl
  unfold dn_X_count at h
  refine lv_aload_n hx hb d_X_count_0 rfl (lv_at hl 0 rfl) ?_
  refine lv_iload_n hx hb d_X_count_1 rfl (lv_at hl 1 rfl) ?_
  obtain ⟨⟨v1, z1⟩, er1, h⟩ := bnd h
  refine q_callVi (C := "DeficitNet") (As := [.int x1]) (rest := []) hx hb hml hown hts hK hW hS (c_X_isFlow l G b x1 z v1 z1 er1) f_X_isFlow t_292 ⟨rfl, rfl⟩ ⟨Nat.le_of_ble_eq_true rfl, Nat.le_of_ble_eq_true rfl⟩ (q_recv (L := LX) (kc := 0) (ki := 0) hK hW okX0 rfl rfl) rfl hl.1 rfl (Nat.le_of_ble_eq_true rfl) d_X_count_2 (fun H locs hW hS => ?_)
  refine lv_if_ne (tgt := 10) hx hb d_X_count_5 (by decide) (fun hc => ?_) (fun hc => ?_)
  · have h := ite_f h hc
    refine lv_iload_n hx hb d_X_count_10 rfl (lv_at hl 2 rfl) ?_
    by_cases hc0 : x2 = (0 : Int32)
    · have h := ite_t h hc0
      refine lv_tableIn (tgt := 52) hx hb d_X_count_11 (by rw [hc0]; decide) (by rw [hc0]; decide) (by rw [hc0]; rfl) (by decide) ?_
      refine lv_aload_n hx hb d_X_count_52 rfl (lv_at hl 0 rfl) ?_
      refine q_get (L := LX) (kc := 0) (ki := 0) (C := "DeficitNet") (T := T_X) (N := 10) (ci := 0) (v := .ref (ad LX b 8 0)) hx hb hts in_X hown hK hW okX0 rfl rfl 2 (by decide) t_223 rfl d_X_count_53 ?_
      refine lv_iload_n hx hb d_X_count_56 rfl (lv_at hl 1 rfl) ?_
      obtain ⟨j2, ej2, h⟩ := bnd h
      refine q_aald (t0 := 5) (ty := (.object "DeficitNet$Flow")) (kd := 9) (L := LX) (kc := 8) (ki := 0) hx hb hK hW okX8 rfl rfl rfl ej2 d_X_count_57 ?_
      refine q_get (L := LX) (kc := 9) (ki := j2) (C := "DeficitNet$Flow") (T := T_F) (N := 14) (ci := 2) (v := .int (z1.1 9 j2 7)) hx hb hts in_F hown hK hW (okX9 (aix_lt ej2)) rfl rfl 7 (by decide) t_107 rfl d_X_count_58 ?_
      exact q_iret hx hb hr hlk hK hW hS h d_X_count_61
    have h := ite_f h hc0
    by_cases hc1 : x2 = (1 : Int32)
    · have h := ite_t h hc1
      refine lv_tableIn (tgt := 62) hx hb d_X_count_11 (by rw [hc1]; decide) (by rw [hc1]; decide) (by rw [hc1]; rfl) (by decide) ?_
      refine lv_aload_n hx hb d_X_count_62 rfl (lv_at hl 0 rfl) ?_
      refine q_get (L := LX) (kc := 0) (ki := 0) (C := "DeficitNet") (T := T_X) (N := 10) (ci := 0) (v := .ref (ad LX b 8 0)) hx hb hts in_X hown hK hW okX0 rfl rfl 2 (by decide) t_223 rfl d_X_count_63 ?_
      refine lv_iload_n hx hb d_X_count_66 rfl (lv_at hl 1 rfl) ?_
      obtain ⟨j3, ej3, h⟩ := bnd h
      refine q_aald (t0 := 5) (ty := (.object "DeficitNet$Flow")) (kd := 9) (L := LX) (kc := 8) (ki := 0) hx hb hK hW okX8 rfl rfl rfl ej3 d_X_count_67 ?_
      refine q_get (L := LX) (kc := 9) (ki := j3) (C := "DeficitNet$Flow") (T := T_F) (N := 14) (ci := 2) (v := .int (z1.1 9 j3 8)) hx hb hts in_F hown hK hW (okX9 (aix_lt ej3)) rfl rfl 8 (by decide) t_109 rfl d_X_count_68 ?_
      exact q_iret hx hb hr hlk hK hW hS h d_X_count_71
    have h := ite_f h hc1
    by_cases hc2 : x2 = (2 : Int32)
    · have h := ite_t h hc2
      refine lv_tableIn (tgt := 72) hx hb d_X_count_11 (by rw [hc2]; decide) (by rw [hc2]; decide) (by rw [hc2]; rfl) (by decide) ?_
      refine lv_aload_n hx hb d_X_count_72 rfl (lv_at hl 0 rfl) ?_
      refine q_get (L := LX) (kc := 0) (ki := 0) (C := "DeficitNet") (T := T_X) (N := 10) (ci := 0) (v := .ref (ad LX b 8 0)) hx hb hts in_X hown hK hW okX0 rfl rfl 2 (by decide) t_223 rfl d_X_count_73 ?_
      refine lv_iload_n hx hb d_X_count_76 rfl (lv_at hl 1 rfl) ?_
      obtain ⟨j4, ej4, h⟩ := bnd h
      refine q_aald (t0 := 5) (ty := (.object "DeficitNet$Flow")) (kd := 9) (L := LX) (kc := 8) (ki := 0) hx hb hK hW okX8 rfl rfl rfl ej4 d_X_count_77 ?_
      refine q_get (L := LX) (kc := 9) (ki := j4) (C := "DeficitNet$Flow") (T := T_F) (N := 14) (ci := 2) (v := .int (z1.1 9 j4 9)) hx hb hts in_F hown hK hW (okX9 (aix_lt ej4)) rfl rfl 9 (by decide) t_111 rfl d_X_count_78 ?_
      exact q_iret hx hb hr hlk hK hW hS h d_X_count_81
    have h := ite_f h hc2
    by_cases hc3 : x2 = (3 : Int32)
    · have h := ite_t h hc3
      refine lv_tableIn (tgt := 82) hx hb d_X_count_11 (by rw [hc3]; decide) (by rw [hc3]; decide) (by rw [hc3]; rfl) (by decide) ?_
      refine lv_aload_n hx hb d_X_count_82 rfl (lv_at hl 0 rfl) ?_
      refine q_get (L := LX) (kc := 0) (ki := 0) (C := "DeficitNet") (T := T_X) (N := 10) (ci := 0) (v := .ref (ad LX b 8 0)) hx hb hts in_X hown hK hW okX0 rfl rfl 2 (by decide) t_223 rfl d_X_count_83 ?_
      refine lv_iload_n hx hb d_X_count_86 rfl (lv_at hl 1 rfl) ?_
      obtain ⟨j5, ej5, h⟩ := bnd h
      refine q_aald (t0 := 5) (ty := (.object "DeficitNet$Flow")) (kd := 9) (L := LX) (kc := 8) (ki := 0) hx hb hK hW okX8 rfl rfl rfl ej5 d_X_count_87 ?_
      refine q_get (L := LX) (kc := 9) (ki := j5) (C := "DeficitNet$Flow") (T := T_F) (N := 14) (ci := 2) (v := .int (z1.1 9 j5 10)) hx hb hts in_F hown hK hW (okX9 (aix_lt ej5)) rfl rfl 10 (by decide) t_113 rfl d_X_count_88 ?_
      exact q_iret hx hb hr hlk hK hW hS h d_X_count_91
    have h := ite_f h hc3
    by_cases hc4 : x2 = (4 : Int32)
    · have h := ite_t h hc4
      refine lv_tableIn (tgt := 92) hx hb d_X_count_11 (by rw [hc4]; decide) (by rw [hc4]; decide) (by rw [hc4]; rfl) (by decide) ?_
      refine lv_aload_n hx hb d_X_count_92 rfl (lv_at hl 0 rfl) ?_
      refine q_get (L := LX) (kc := 0) (ki := 0) (C := "DeficitNet") (T := T_X) (N := 10) (ci := 0) (v := .ref (ad LX b 8 0)) hx hb hts in_X hown hK hW okX0 rfl rfl 2 (by decide) t_223 rfl d_X_count_93 ?_
      refine lv_iload_n hx hb d_X_count_96 rfl (lv_at hl 1 rfl) ?_
      obtain ⟨j6, ej6, h⟩ := bnd h
      refine q_aald (t0 := 5) (ty := (.object "DeficitNet$Flow")) (kd := 9) (L := LX) (kc := 8) (ki := 0) hx hb hK hW okX8 rfl rfl rfl ej6 d_X_count_97 ?_
      refine q_get (L := LX) (kc := 9) (ki := j6) (C := "DeficitNet$Flow") (T := T_F) (N := 14) (ci := 2) (v := .int (z1.1 9 j6 11)) hx hb hts in_F hown hK hW (okX9 (aix_lt ej6)) rfl rfl 11 (by decide) t_115 rfl d_X_count_98 ?_
      exact q_iret hx hb hr hlk hK hW hS h d_X_count_101
    have h := ite_f h hc4
    by_cases hc5 : x2 = (5 : Int32)
    · have h := ite_t h hc5
      refine lv_tableIn (tgt := 102) hx hb d_X_count_11 (by rw [hc5]; decide) (by rw [hc5]; decide) (by rw [hc5]; rfl) (by decide) ?_
      refine lv_aload_n hx hb d_X_count_102 rfl (lv_at hl 0 rfl) ?_
      refine q_get (L := LX) (kc := 0) (ki := 0) (C := "DeficitNet") (T := T_X) (N := 10) (ci := 0) (v := .ref (ad LX b 8 0)) hx hb hts in_X hown hK hW okX0 rfl rfl 2 (by decide) t_223 rfl d_X_count_103 ?_
      refine lv_iload_n hx hb d_X_count_106 rfl (lv_at hl 1 rfl) ?_
      obtain ⟨j7, ej7, h⟩ := bnd h
      refine q_aald (t0 := 5) (ty := (.object "DeficitNet$Flow")) (kd := 9) (L := LX) (kc := 8) (ki := 0) hx hb hK hW okX8 rfl rfl rfl ej7 d_X_count_107 ?_
      refine q_get (L := LX) (kc := 9) (ki := j7) (C := "DeficitNet$Flow") (T := T_F) (N := 14) (ci := 2) (v := .int (z1.1 9 j7 12)) hx hb hts in_F hown hK hW (okX9 (aix_lt ej7)) rfl rfl 12 (by decide) t_117 rfl d_X_count_108 ?_
      exact q_iret hx hb hr hlk hK hW hS h d_X_count_111
    have h := ite_f h hc5
    by_cases hc6 : x2 = (6 : Int32)
    · have h := ite_t h hc6
      refine lv_tableIn (tgt := 112) hx hb d_X_count_11 (by rw [hc6]; decide) (by rw [hc6]; decide) (by rw [hc6]; rfl) (by decide) ?_
      refine lv_aload_n hx hb d_X_count_112 rfl (lv_at hl 0 rfl) ?_
      refine q_get (L := LX) (kc := 0) (ki := 0) (C := "DeficitNet") (T := T_X) (N := 10) (ci := 0) (v := .ref (ad LX b 8 0)) hx hb hts in_X hown hK hW okX0 rfl rfl 2 (by decide) t_223 rfl d_X_count_113 ?_
      refine lv_iload_n hx hb d_X_count_116 rfl (lv_at hl 1 rfl) ?_
      obtain ⟨j8, ej8, h⟩ := bnd h
      refine q_aald (t0 := 5) (ty := (.object "DeficitNet$Flow")) (kd := 9) (L := LX) (kc := 8) (ki := 0) hx hb hK hW okX8 rfl rfl rfl ej8 d_X_count_117 ?_
      refine q_get (L := LX) (kc := 9) (ki := j8) (C := "DeficitNet$Flow") (T := T_F) (N := 14) (ci := 2) (v := .int (z1.1 9 j8 13)) hx hb hts in_F hown hK hW (okX9 (aix_lt ej8)) rfl rfl 13 (by decide) t_119 rfl d_X_count_118 ?_
      exact q_iret hx hb hr hlk hK hW hS h d_X_count_121
    have h := ite_f h hc6
    refine lv_tableOut (tgt := 122) hx hb d_X_count_11 (sw_out0_6 hc0 hc1 hc2 hc3 hc4 hc5 hc6) (by decide) ?_
    refine lv_iconst (v := (-1 : Int32)) hx hb d_X_count_122 (by decide) ?_
    exact q_iret hx hb hr hlk hK hW hS h d_X_count_123
  · have h := ite_t h hc
    refine lv_iconst (v := (-1 : Int32)) hx hb d_X_count_8 (by decide) ?_
    exact q_iret hx hb hr hlk hK hW hS h d_X_count_9
set_option maxHeartbeats 4000000 in
set_option maxRecDepth 100000 in
theorem c_Y_lesser (l : Launch) (x0 : Int32) (x1 : Int32) (r0 : Int32) (h : dn_Y_lesser x0 x1 = some r0) : MtP l y_Y_lesser b_Y_lesser 2 (some .int) rm_Y_lesser [.int x0, .int x1] (QPI r0) := by
  refine mtP_of (by decide) (Nat.le_of_ble_eq_true rfl) ?_
  intro p e s m args below meth c ls C hl
  obtain ⟨hx, hb, hml, hr, hown, hts, hlk⟩ := C
  have hl : lv_has ls 2 [(0, .int x0), (1, .int x1)] := hl
  unfold dn_Y_lesser at h
  refine lv_iload_n hx hb d_Y_lesser_0 rfl (lv_at hl 0 rfl) ?_
  refine lv_iload_n hx hb d_Y_lesser_1 rfl (lv_at hl 1 rfl) ?_
  refine lv_icmp_ge (tgt := 9) hx hb d_Y_lesser_2 (by decide) (fun hc => ?_) (fun hc => ?_)
  · have h := ite_t h hc
    refine lv_iload_n hx hb d_Y_lesser_9 rfl (lv_at hl 1 rfl) ?_
    exact q_iretP hx hb hr hlk h d_Y_lesser_10
  · have h := ite_f h hc
    refine lv_iload_n hx hb d_Y_lesser_5 rfl (lv_at hl 0 rfl) ?_
    refine lv_goto (tgt := 10) hx hb d_Y_lesser_6 (by decide) ?_
    exact q_iretP hx hb hr hlk h d_Y_lesser_10
set_option maxHeartbeats 4000000 in
set_option maxRecDepth 100000 in
theorem w_Y_measure_10 {p : Program} {l : Launch} {e : Env} {s : State} {m : MethodId} {args : Array Value} {below : List Frame} {meth : Method} {c : Code} {G : GG} {b : Nat} {z0 : Mem} (C : Cx y_Y_measure b_Y_measure 4 none p s m args meth c G) {k44 : Int32 → Mem → Option Mem} 
    (hk44 : ∀ (x1 : Int32) (z : Mem) (ls : Array Slot) (H : Heap) (locs : List Loc), Wd LY G b z H → va_S (rgL LY b) s.heap H locs → lv_has ls 4 [(0, .ref (ad LY b 0 0)), (1, .int x1)] → k44 x1 z = some z0 → W p l e rm_Y_measure s m args below meth c H locs 0 0 (MQ below (QV LY G b z0) args s 0 0 (rgL LY b)) (F0 m 44 ls [])) :
    ∀ (n : Nat) (x1 : Int32) (x2 : Int32) (z : Mem) (ls : Array Slot) (H : Heap) (locs : List Loc), Wd LY G b z H → va_S (rgL LY b) s.heap H locs → lv_has ls 4 [(0, .ref (ad LY b 0 0)), (1, .int x1), (2, .int x2)] → dn_Y_measure_10 k44 n x1 x2 z = some z0 → W p l e rm_Y_measure s m args below meth c H locs 0 0 (MQ below (QV LY G b z0) args s 0 0 (rgL LY b)) (F0 m 10 ls []) := by
  obtain ⟨hx, hb, hml, hr, hown, hts, hlk, hK⟩ := C
  intro n
  induction n with
  | zero =>
    intro x1 x2 z ls H locs  hW hS hl h
    cases h
  | succ n ih =>
    intro x1 x2 z ls H locs  hW hS hl h
    rw [dn_Y_measure_10] at h
    refine lv_iload_n hx hb d_Y_measure_10 rfl (lv_at hl 2 rfl) ?_
    refine lv_bipush (v := (8 : Int32)) hx hb d_Y_measure_11 (by decide) ?_
    refine lv_icmp_ge (tgt := 44) hx hb d_Y_measure_13 (by decide) (fun hc => ?_) (fun hc => ?_)
    · have h := ite_t h hc
      exact hk44 x1 z ls H locs  hW hS (lv_sub hl [0, 1] rfl) h
    · have h := ite_f h hc
      refine lv_aload_n hx hb d_Y_measure_16 rfl (lv_at hl 0 rfl) ?_
      refine q_get (L := LY) (kc := 0) (ki := 0) (C := "DeficitNetModel") (T := T_Y) (N := 40) (ci := 5) (v := .ref (ad LY b 8 0)) hx hb hts in_Y hown hK hW okY0 rfl rfl 8 (by decide) t_488 rfl d_Y_measure_17 ?_
      refine lv_bipush (v := (8 : Int32)) hx hb d_Y_measure_20 (by decide) ?_
      refine lv_iload_n hx hb d_Y_measure_22 rfl (lv_at hl 1 rfl) ?_
      refine lv_imul hx hb d_Y_measure_23 ?_
      refine lv_iload_n hx hb d_Y_measure_24 rfl (lv_at hl 2 rfl) ?_
      refine lv_iadd hx hb d_Y_measure_25 ?_
      refine lv_iload_n hx hb d_Y_measure_26 rfl (lv_at hl 1 rfl) ?_
      refine lv_iload_n hx hb d_Y_measure_27 rfl (lv_at hl 2 rfl) ?_
      refine lv_icmp_ne (tgt := 35) hx hb d_Y_measure_28 (by decide) (fun hc => ?_) (fun hc => ?_)
      · have h := ite_f h hc
        refine lv_ldc (v := (1000000 : Int32)) hx hb hown (hts _ t_476) d_Y_measure_35 ?_
        obtain ⟨j1, ej1, h⟩ := bnd h
        refine q_iast (L := LY) (kc := 8) (ki := 0) hx hb hK hW hS okY8 (fun _ => rfl) ej1 d_Y_measure_37 (fun H locs z2 ez2 hW hS => ?_)
        have h := stM_n h ez2
        refine lv_iinc (k := 2) (v := (x2 + (1 : Int32))) hx hb d_Y_measure_38 hl rfl rfl (by decide) rfl (fun ls hl => ?_)
        have hl : lv_has ls 4 [(2, .int (x2 + (1 : Int32))), (0, .ref (ad LY b 0 0)), (1, .int x1)] := hl
        refine lv_goto (tgt := 10) hx hb d_Y_measure_41 (by decide) ?_
        exact ih x1 (x2 + (1 : Int32)) z2 ls H locs  hW hS (lv_sub hl [1, 2, 0] rfl) h
      · have h := ite_t h hc
        refine lv_iconst (v := (0 : Int32)) hx hb d_Y_measure_31 (by decide) ?_
        refine lv_goto (tgt := 37) hx hb d_Y_measure_32 (by decide) ?_
        obtain ⟨j3, ej3, h⟩ := bnd h
        refine q_iast (L := LY) (kc := 8) (ki := 0) hx hb hK hW hS okY8 (fun _ => rfl) ej3 d_Y_measure_37 (fun H locs z4 ez4 hW hS => ?_)
        have h := stM_n h ez4
        refine lv_iinc (k := 2) (v := (x2 + (1 : Int32))) hx hb d_Y_measure_38 hl rfl rfl (by decide) rfl (fun ls hl => ?_)
        have hl : lv_has ls 4 [(2, .int (x2 + (1 : Int32))), (0, .ref (ad LY b 0 0)), (1, .int x1)] := hl
        refine lv_goto (tgt := 10) hx hb d_Y_measure_41 (by decide) ?_
        exact ih x1 (x2 + (1 : Int32)) z4 ls H locs  hW hS (lv_sub hl [1, 2, 0] rfl) h
set_option maxHeartbeats 4000000 in
set_option maxRecDepth 100000 in
theorem w_Y_measure_2 {p : Program} {l : Launch} {e : Env} {s : State} {m : MethodId} {args : Array Value} {below : List Frame} {meth : Method} {c : Code} {G : GG} {b : Nat} {z0 : Mem} (C : Cx y_Y_measure b_Y_measure 4 none p s m args meth c G) {k50 : Mem → Option Mem} 
    (hk50 : ∀  (z : Mem) (ls : Array Slot) (H : Heap) (locs : List Loc), Wd LY G b z H → va_S (rgL LY b) s.heap H locs → lv_has ls 4 [(0, .ref (ad LY b 0 0))] → k50  z = some z0 → W p l e rm_Y_measure s m args below meth c H locs 0 0 (MQ below (QV LY G b z0) args s 0 0 (rgL LY b)) (F0 m 50 ls [])) :
    ∀ (n : Nat) (x1 : Int32) (z : Mem) (ls : Array Slot) (H : Heap) (locs : List Loc), Wd LY G b z H → va_S (rgL LY b) s.heap H locs → lv_has ls 4 [(0, .ref (ad LY b 0 0)), (1, .int x1)] → dn_Y_measure_2 k50 n x1 z = some z0 → W p l e rm_Y_measure s m args below meth c H locs 0 0 (MQ below (QV LY G b z0) args s 0 0 (rgL LY b)) (F0 m 2 ls []) := by
  obtain ⟨hx, hb, hml, hr, hown, hts, hlk, hK⟩ := C
  intro n
  induction n with
  | zero =>
    intro x1 z ls H locs  hW hS hl h
    cases h
  | succ n ih =>
    intro x1 z ls H locs  hW hS hl h
    rw [dn_Y_measure_2] at h
    refine lv_iload_n hx hb d_Y_measure_2 rfl (lv_at hl 1 rfl) ?_
    refine lv_bipush (v := (8 : Int32)) hx hb d_Y_measure_3 (by decide) ?_
    refine lv_icmp_ge (tgt := 50) hx hb d_Y_measure_5 (by decide) (fun hc => ?_) (fun hc => ?_)
    · have h := ite_t h hc
      exact hk50  z ls H locs  hW hS (lv_sub hl [0] rfl) h
    · have h := ite_f h hc
      refine lv_iconst (v := (0 : Int32)) hx hb d_Y_measure_8 (by decide) ?_
      refine lv_istore_n hx hb d_Y_measure_9 rfl hl (by decide) rfl (fun ls hl => ?_)
      have hl : lv_has ls 4 [(2, .int (0 : Int32)), (0, .ref (ad LY b 0 0)), (1, .int x1)] := hl
      refine w_Y_measure_10 ⟨hx, hb, hml, hr, hown, hts, hlk, hK⟩ (fun x1 z5 ls H locs  hW hS hl h => ?_) FU x1 (0 : Int32) z ls H locs  hW hS (lv_sub hl [1, 2, 0] rfl) h
      · refine lv_iinc (k := 1) (v := (x1 + (1 : Int32))) hx hb d_Y_measure_44 hl rfl rfl (by decide) rfl (fun ls hl => ?_)
        have hl : lv_has ls 4 [(1, .int (x1 + (1 : Int32))), (0, .ref (ad LY b 0 0))] := hl
        refine lv_goto (tgt := 2) hx hb d_Y_measure_47 (by decide) ?_
        exact ih (x1 + (1 : Int32)) z5 ls H locs  hW hS (lv_sub hl [1, 0] rfl) h
set_option maxHeartbeats 4000000 in
set_option maxRecDepth 100000 in
theorem w_Y_measure_52 {p : Program} {l : Launch} {e : Env} {s : State} {m : MethodId} {args : Array Value} {below : List Frame} {meth : Method} {c : Code} {G : GG} {b : Nat} {z0 : Mem} (C : Cx y_Y_measure b_Y_measure 4 none p s m args meth c G) {k142 : Mem → Option Mem} 
    (hk142 : ∀  (z : Mem) (ls : Array Slot) (H : Heap) (locs : List Loc), Wd LY G b z H → va_S (rgL LY b) s.heap H locs → lv_has ls 4 [(0, .ref (ad LY b 0 0))] → k142  z = some z0 → W p l e rm_Y_measure s m args below meth c H locs 0 0 (MQ below (QV LY G b z0) args s 0 0 (rgL LY b)) (F0 m 142 ls [])) :
    ∀ (n : Nat) (x1 : Int32) (z : Mem) (ls : Array Slot) (H : Heap) (locs : List Loc), Wd LY G b z H → va_S (rgL LY b) s.heap H locs → lv_has ls 4 [(0, .ref (ad LY b 0 0)), (1, .int x1)] → dn_Y_measure_52 k142 n x1 z = some z0 → W p l e rm_Y_measure s m args below meth c H locs 0 0 (MQ below (QV LY G b z0) args s 0 0 (rgL LY b)) (F0 m 52 ls []) := by
  obtain ⟨hx, hb, hml, hr, hown, hts, hlk, hK⟩ := C
  intro n
  induction n with
  | zero =>
    intro x1 z ls H locs  hW hS hl h
    cases h
  | succ n ih =>
    intro x1 z ls H locs  hW hS hl h
    rw [dn_Y_measure_52] at h
    refine lv_iload_n hx hb d_Y_measure_52 rfl (lv_at hl 1 rfl) ?_
    refine lv_aload_n hx hb d_Y_measure_53 rfl (lv_at hl 0 rfl) ?_
    refine q_get (L := LY) (kc := 0) (ki := 0) (C := "DeficitNetModel") (T := T_Y) (N := 40) (ci := 5) (v := .int (z.1 0 0 0)) hx hb hts in_Y hown hK hW okY0 rfl rfl 0 (by decide) t_480 rfl d_Y_measure_54 ?_
    refine lv_icmp_ge (tgt := 142) hx hb d_Y_measure_57 (by decide) (fun hc => ?_) (fun hc => ?_)
    · have h := ite_t h hc
      exact hk142  z ls H locs  hW hS (lv_sub hl [0] rfl) h
    · have h := ite_f h hc
      refine lv_bipush (v := (8 : Int32)) hx hb d_Y_measure_60 (by decide) ?_
      refine lv_aload_n hx hb d_Y_measure_62 rfl (lv_at hl 0 rfl) ?_
      refine q_get (L := LY) (kc := 0) (ki := 0) (C := "DeficitNetModel") (T := T_Y) (N := 40) (ci := 5) (v := .ref (ad LY b 1 0)) hx hb hts in_Y hown hK hW okY0 rfl rfl 1 (by decide) t_481 rfl d_Y_measure_63 ?_
      refine lv_iload_n hx hb d_Y_measure_66 rfl (lv_at hl 1 rfl) ?_
      obtain ⟨j7, ej7, h⟩ := bnd h
      refine q_iald (L := LY) (kc := 1) (ki := 0) hx hb hK hW okY1 rfl ej7 d_Y_measure_67 ?_
      refine lv_imul hx hb d_Y_measure_68 ?_
      refine lv_aload_n hx hb d_Y_measure_69 rfl (lv_at hl 0 rfl) ?_
      refine q_get (L := LY) (kc := 0) (ki := 0) (C := "DeficitNetModel") (T := T_Y) (N := 40) (ci := 5) (v := .ref (ad LY b 2 0)) hx hb hts in_Y hown hK hW okY0 rfl rfl 2 (by decide) t_482 rfl d_Y_measure_70 ?_
      refine lv_iload_n hx hb d_Y_measure_73 rfl (lv_at hl 1 rfl) ?_
      obtain ⟨j8, ej8, h⟩ := bnd h
      refine q_iald (L := LY) (kc := 2) (ki := 0) hx hb hK hW okY2 rfl ej8 d_Y_measure_74 ?_
      refine lv_iadd hx hb d_Y_measure_75 ?_
      refine lv_topi (fun v9 ev9 => ?_)
      have h := stV_n h ev9
      refine lv_istore_n hx hb d_Y_measure_76 rfl hl (by decide) rfl (fun ls hl => ?_)
      have hl : lv_has ls 4 [(2, .int v9), (0, .ref (ad LY b 0 0)), (1, .int x1)] := hl
      refine lv_bipush (v := (8 : Int32)) hx hb d_Y_measure_77 (by decide) ?_
      refine lv_aload_n hx hb d_Y_measure_79 rfl (lv_at hl 1 rfl) ?_
      refine q_get (L := LY) (kc := 0) (ki := 0) (C := "DeficitNetModel") (T := T_Y) (N := 40) (ci := 5) (v := .ref (ad LY b 2 0)) hx hb hts in_Y hown hK hW okY0 rfl rfl 2 (by decide) t_482 rfl d_Y_measure_80 ?_
      refine lv_iload_n hx hb d_Y_measure_83 rfl (lv_at hl 2 rfl) ?_
      obtain ⟨j10, ej10, h⟩ := bnd h
      refine q_iald (L := LY) (kc := 2) (ki := 0) hx hb hK hW okY2 rfl ej10 d_Y_measure_84 ?_
      refine lv_imul hx hb d_Y_measure_85 ?_
      refine lv_aload_n hx hb d_Y_measure_86 rfl (lv_at hl 1 rfl) ?_
      refine q_get (L := LY) (kc := 0) (ki := 0) (C := "DeficitNetModel") (T := T_Y) (N := 40) (ci := 5) (v := .ref (ad LY b 1 0)) hx hb hts in_Y hown hK hW okY0 rfl rfl 1 (by decide) t_481 rfl d_Y_measure_87 ?_
      refine lv_iload_n hx hb d_Y_measure_90 rfl (lv_at hl 2 rfl) ?_
      obtain ⟨j11, ej11, h⟩ := bnd h
      refine q_iald (L := LY) (kc := 1) (ki := 0) hx hb hK hW okY1 rfl ej11 d_Y_measure_91 ?_
      refine lv_iadd hx hb d_Y_measure_92 ?_
      refine lv_topi (fun v12 ev12 => ?_)
      have h := stV_n h ev12
      refine lv_istore_n hx hb d_Y_measure_93 rfl hl (by decide) rfl (fun ls hl => ?_)
      have hl : lv_has ls 4 [(3, .int v12), (2, .int v9), (0, .ref (ad LY b 0 0)), (1, .int x1)] := hl
      refine lv_aload_n hx hb d_Y_measure_94 rfl (lv_at hl 2 rfl) ?_
      refine q_get (L := LY) (kc := 0) (ki := 0) (C := "DeficitNetModel") (T := T_Y) (N := 40) (ci := 5) (v := .ref (ad LY b 8 0)) hx hb hts in_Y hown hK hW okY0 rfl rfl 8 (by decide) t_488 rfl d_Y_measure_95 ?_
      refine lv_iload_n hx hb d_Y_measure_98 rfl (lv_at hl 1 rfl) ?_
      refine lv_aload_n hx hb d_Y_measure_99 rfl (lv_at hl 2 rfl) ?_
      refine q_get (L := LY) (kc := 0) (ki := 0) (C := "DeficitNetModel") (T := T_Y) (N := 40) (ci := 5) (v := .ref (ad LY b 8 0)) hx hb hts in_Y hown hK hW okY0 rfl rfl 8 (by decide) t_488 rfl d_Y_measure_100 ?_
      refine lv_iload_n hx hb d_Y_measure_103 rfl (lv_at hl 1 rfl) ?_
      obtain ⟨j13, ej13, h⟩ := bnd h
      refine q_iald (L := LY) (kc := 8) (ki := 0) hx hb hK hW okY8 rfl ej13 d_Y_measure_104 ?_
      refine lv_aload_n hx hb d_Y_measure_105 rfl (lv_at hl 2 rfl) ?_
      refine q_get (L := LY) (kc := 0) (ki := 0) (C := "DeficitNetModel") (T := T_Y) (N := 40) (ci := 5) (v := .ref (ad LY b 3 0)) hx hb hts in_Y hown hK hW okY0 rfl rfl 3 (by decide) t_483 rfl d_Y_measure_106 ?_
      refine lv_iload_n hx hb d_Y_measure_109 rfl (lv_at hl 3 rfl) ?_
      obtain ⟨j14, ej14, h⟩ := bnd h
      refine q_iald (L := LY) (kc := 3) (ki := 0) hx hb hK hW okY3 rfl ej14 d_Y_measure_110 ?_
      obtain ⟨v15, ev15, h⟩ := bnd h
      refine q_callPi (As := [.int (z.1 8 0 j13), .int (z.1 3 0 j14)]) (rest := [.int v9, .ref (ad LY b 8 0)]) hx hb hml hown hts hW hS (c_Y_lesser l (z.1 8 0 j13) (z.1 3 0 j14) v15 ev15) f_Y_lesser t_477 ⟨rfl, rfl⟩ ⟨Nat.le_of_ble_eq_true rfl, Nat.le_of_ble_eq_true rfl⟩ rfl hl.1 rfl (Nat.le_of_ble_eq_true rfl) d_Y_measure_111 (fun H locs hW hS => ?_)
      obtain ⟨j16, ej16, h⟩ := bnd h
      refine q_iast (L := LY) (kc := 8) (ki := 0) hx hb hK hW hS okY8 (fun _ => rfl) ej16 d_Y_measure_114 (fun H locs z17 ez17 hW hS => ?_)
      have h := stM_n h ez17
      refine lv_aload_n hx hb d_Y_measure_115 rfl (lv_at hl 2 rfl) ?_
      refine q_get (L := LY) (kc := 0) (ki := 0) (C := "DeficitNetModel") (T := T_Y) (N := 40) (ci := 5) (v := .ref (ad LY b 8 0)) hx hb hts in_Y hown hK hW okY0 rfl rfl 8 (by decide) t_488 rfl d_Y_measure_116 ?_
      refine lv_iload_n hx hb d_Y_measure_119 rfl (lv_at hl 0 rfl) ?_
      refine lv_aload_n hx hb d_Y_measure_120 rfl (lv_at hl 2 rfl) ?_
      refine q_get (L := LY) (kc := 0) (ki := 0) (C := "DeficitNetModel") (T := T_Y) (N := 40) (ci := 5) (v := .ref (ad LY b 8 0)) hx hb hts in_Y hown hK hW okY0 rfl rfl 8 (by decide) t_488 rfl d_Y_measure_121 ?_
      refine lv_iload_n hx hb d_Y_measure_124 rfl (lv_at hl 0 rfl) ?_
      obtain ⟨j18, ej18, h⟩ := bnd h
      refine q_iald (L := LY) (kc := 8) (ki := 0) hx hb hK hW okY8 rfl ej18 d_Y_measure_125 ?_
      refine lv_aload_n hx hb d_Y_measure_126 rfl (lv_at hl 2 rfl) ?_
      refine q_get (L := LY) (kc := 0) (ki := 0) (C := "DeficitNetModel") (T := T_Y) (N := 40) (ci := 5) (v := .ref (ad LY b 3 0)) hx hb hts in_Y hown hK hW okY0 rfl rfl 3 (by decide) t_483 rfl d_Y_measure_127 ?_
      refine lv_iload_n hx hb d_Y_measure_130 rfl (lv_at hl 3 rfl) ?_
      obtain ⟨j19, ej19, h⟩ := bnd h
      refine q_iald (L := LY) (kc := 3) (ki := 0) hx hb hK hW okY3 rfl ej19 d_Y_measure_131 ?_
      obtain ⟨v20, ev20, h⟩ := bnd h
      refine q_callPi (As := [.int (z17.1 8 0 j18), .int (z17.1 3 0 j19)]) (rest := [.int v12, .ref (ad LY b 8 0)]) hx hb hml hown hts hW hS (c_Y_lesser l (z17.1 8 0 j18) (z17.1 3 0 j19) v20 ev20) f_Y_lesser t_477 ⟨rfl, rfl⟩ ⟨Nat.le_of_ble_eq_true rfl, Nat.le_of_ble_eq_true rfl⟩ rfl hl.1 rfl (Nat.le_of_ble_eq_true rfl) d_Y_measure_132 (fun H locs hW hS => ?_)
      obtain ⟨j21, ej21, h⟩ := bnd h
      refine q_iast (L := LY) (kc := 8) (ki := 0) hx hb hK hW hS okY8 (fun _ => rfl) ej21 d_Y_measure_135 (fun H locs z22 ez22 hW hS => ?_)
      have h := stM_n h ez22
      refine lv_iinc (k := 3) (v := (x1 + (1 : Int32))) hx hb d_Y_measure_136 hl rfl rfl (by decide) rfl (fun ls hl => ?_)
      have hl : lv_has ls 4 [(1, .int (x1 + (1 : Int32))), (3, .int v12), (2, .int v9), (0, .ref (ad LY b 0 0))] := hl
      refine lv_goto (tgt := 52) hx hb d_Y_measure_139 (by decide) ?_
      exact ih (x1 + (1 : Int32)) z22 ls H locs  hW hS (lv_sub hl [3, 0] rfl) h
set_option maxHeartbeats 4000000 in
set_option maxRecDepth 100000 in
theorem w_Y_measure_160 {p : Program} {l : Launch} {e : Env} {s : State} {m : MethodId} {args : Array Value} {below : List Frame} {meth : Method} {c : Code} {G : GG} {b : Nat} {z0 : Mem} (C : Cx y_Y_measure b_Y_measure 4 none p s m args meth c G) {k220 : Int32 → Int32 → Mem → Option Mem} 
    (hk220 : ∀ (x1 : Int32) (x2 : Int32) (z : Mem) (ls : Array Slot) (H : Heap) (locs : List Loc), Wd LY G b z H → va_S (rgL LY b) s.heap H locs → lv_has ls 4 [(0, .ref (ad LY b 0 0)), (1, .int x1), (2, .int x2)] → k220 x1 x2 z = some z0 → W p l e rm_Y_measure s m args below meth c H locs 0 0 (MQ below (QV LY G b z0) args s 0 0 (rgL LY b)) (F0 m 220 ls [])) :
    ∀ (n : Nat) (x1 : Int32) (x2 : Int32) (x3 : Int32) (z : Mem) (ls : Array Slot) (H : Heap) (locs : List Loc), Wd LY G b z H → va_S (rgL LY b) s.heap H locs → lv_has ls 4 [(0, .ref (ad LY b 0 0)), (1, .int x1), (2, .int x2), (3, .int x3)] → dn_Y_measure_160 k220 n x1 x2 x3 z = some z0 → W p l e rm_Y_measure s m args below meth c H locs 0 0 (MQ below (QV LY G b z0) args s 0 0 (rgL LY b)) (F0 m 160 ls []) := by
  obtain ⟨hx, hb, hml, hr, hown, hts, hlk, hK⟩ := C
  intro n
  induction n with
  | zero =>
    intro x1 x2 x3 z ls H locs  hW hS hl h
    cases h
  | succ n ih =>
    intro x1 x2 x3 z ls H locs  hW hS hl h
    rw [dn_Y_measure_160] at h
    refine lv_iload_n hx hb d_Y_measure_160 rfl (lv_at hl 3 rfl) ?_
    refine lv_bipush (v := (8 : Int32)) hx hb d_Y_measure_161 (by decide) ?_
    refine lv_icmp_ge (tgt := 220) hx hb d_Y_measure_163 (by decide) (fun hc => ?_) (fun hc => ?_)
    · have h := ite_t h hc
      exact hk220 x1 x2 z ls H locs  hW hS (lv_sub hl [0, 1, 2] rfl) h
    · have h := ite_f h hc
      refine lv_aload_n hx hb d_Y_measure_166 rfl (lv_at hl 0 rfl) ?_
      refine q_get (L := LY) (kc := 0) (ki := 0) (C := "DeficitNetModel") (T := T_Y) (N := 40) (ci := 5) (v := .ref (ad LY b 8 0)) hx hb hts in_Y hown hK hW okY0 rfl rfl 8 (by decide) t_488 rfl d_Y_measure_167 ?_
      refine lv_bipush (v := (8 : Int32)) hx hb d_Y_measure_170 (by decide) ?_
      refine lv_iload_n hx hb d_Y_measure_172 rfl (lv_at hl 2 rfl) ?_
      refine lv_imul hx hb d_Y_measure_173 ?_
      refine lv_iload_n hx hb d_Y_measure_174 rfl (lv_at hl 3 rfl) ?_
      refine lv_iadd hx hb d_Y_measure_175 ?_
      refine lv_aload_n hx hb d_Y_measure_176 rfl (lv_at hl 0 rfl) ?_
      refine q_get (L := LY) (kc := 0) (ki := 0) (C := "DeficitNetModel") (T := T_Y) (N := 40) (ci := 5) (v := .ref (ad LY b 8 0)) hx hb hts in_Y hown hK hW okY0 rfl rfl 8 (by decide) t_488 rfl d_Y_measure_177 ?_
      refine lv_bipush (v := (8 : Int32)) hx hb d_Y_measure_180 (by decide) ?_
      refine lv_iload_n hx hb d_Y_measure_182 rfl (lv_at hl 2 rfl) ?_
      refine lv_imul hx hb d_Y_measure_183 ?_
      refine lv_iload_n hx hb d_Y_measure_184 rfl (lv_at hl 3 rfl) ?_
      refine lv_iadd hx hb d_Y_measure_185 ?_
      obtain ⟨j24, ej24, h⟩ := bnd h
      refine q_iald (L := LY) (kc := 8) (ki := 0) hx hb hK hW okY8 rfl ej24 d_Y_measure_186 ?_
      refine lv_aload_n hx hb d_Y_measure_187 rfl (lv_at hl 0 rfl) ?_
      refine q_get (L := LY) (kc := 0) (ki := 0) (C := "DeficitNetModel") (T := T_Y) (N := 40) (ci := 5) (v := .ref (ad LY b 8 0)) hx hb hts in_Y hown hK hW okY0 rfl rfl 8 (by decide) t_488 rfl d_Y_measure_188 ?_
      refine lv_bipush (v := (8 : Int32)) hx hb d_Y_measure_191 (by decide) ?_
      refine lv_iload_n hx hb d_Y_measure_193 rfl (lv_at hl 2 rfl) ?_
      refine lv_imul hx hb d_Y_measure_194 ?_
      refine lv_iload_n hx hb d_Y_measure_195 rfl (lv_at hl 1 rfl) ?_
      refine lv_iadd hx hb d_Y_measure_196 ?_
      obtain ⟨j25, ej25, h⟩ := bnd h
      refine q_iald (L := LY) (kc := 8) (ki := 0) hx hb hK hW okY8 rfl ej25 d_Y_measure_197 ?_
      refine lv_aload_n hx hb d_Y_measure_198 rfl (lv_at hl 0 rfl) ?_
      refine q_get (L := LY) (kc := 0) (ki := 0) (C := "DeficitNetModel") (T := T_Y) (N := 40) (ci := 5) (v := .ref (ad LY b 8 0)) hx hb hts in_Y hown hK hW okY0 rfl rfl 8 (by decide) t_488 rfl d_Y_measure_199 ?_
      refine lv_bipush (v := (8 : Int32)) hx hb d_Y_measure_202 (by decide) ?_
      refine lv_iload_n hx hb d_Y_measure_204 rfl (lv_at hl 1 rfl) ?_
      refine lv_imul hx hb d_Y_measure_205 ?_
      refine lv_iload_n hx hb d_Y_measure_206 rfl (lv_at hl 3 rfl) ?_
      refine lv_iadd hx hb d_Y_measure_207 ?_
      obtain ⟨j26, ej26, h⟩ := bnd h
      refine q_iald (L := LY) (kc := 8) (ki := 0) hx hb hK hW okY8 rfl ej26 d_Y_measure_208 ?_
      refine lv_iadd hx hb d_Y_measure_209 ?_
      obtain ⟨v27, ev27, h⟩ := bnd h
      refine q_callPi (As := [.int (z.1 8 0 j24), .int ((z.1 8 0 j25) + (z.1 8 0 j26))]) (rest := [.int (((8 : Int32) * x2) + x3), .ref (ad LY b 8 0)]) hx hb hml hown hts hW hS (c_Y_lesser l (z.1 8 0 j24) ((z.1 8 0 j25) + (z.1 8 0 j26)) v27 ev27) f_Y_lesser t_477 ⟨rfl, rfl⟩ ⟨Nat.le_of_ble_eq_true rfl, Nat.le_of_ble_eq_true rfl⟩ rfl hl.1 rfl (Nat.le_of_ble_eq_true rfl) d_Y_measure_210 (fun H locs hW hS => ?_)
      obtain ⟨j28, ej28, h⟩ := bnd h
      refine q_iast (L := LY) (kc := 8) (ki := 0) hx hb hK hW hS okY8 (fun _ => rfl) ej28 d_Y_measure_213 (fun H locs z29 ez29 hW hS => ?_)
      have h := stM_n h ez29
      refine lv_iinc (k := 3) (v := (x3 + (1 : Int32))) hx hb d_Y_measure_214 hl rfl rfl (by decide) rfl (fun ls hl => ?_)
      have hl : lv_has ls 4 [(3, .int (x3 + (1 : Int32))), (0, .ref (ad LY b 0 0)), (1, .int x1), (2, .int x2)] := hl
      refine lv_goto (tgt := 160) hx hb d_Y_measure_217 (by decide) ?_
      exact ih x1 x2 (x3 + (1 : Int32)) z29 ls H locs  hW hS (lv_sub hl [1, 2, 3, 0] rfl) h
set_option maxHeartbeats 4000000 in
set_option maxRecDepth 100000 in
theorem w_Y_measure_152 {p : Program} {l : Launch} {e : Env} {s : State} {m : MethodId} {args : Array Value} {below : List Frame} {meth : Method} {c : Code} {G : GG} {b : Nat} {z0 : Mem} (C : Cx y_Y_measure b_Y_measure 4 none p s m args meth c G) {k226 : Int32 → Mem → Option Mem} 
    (hk226 : ∀ (x1 : Int32) (z : Mem) (ls : Array Slot) (H : Heap) (locs : List Loc), Wd LY G b z H → va_S (rgL LY b) s.heap H locs → lv_has ls 4 [(0, .ref (ad LY b 0 0)), (1, .int x1)] → k226 x1 z = some z0 → W p l e rm_Y_measure s m args below meth c H locs 0 0 (MQ below (QV LY G b z0) args s 0 0 (rgL LY b)) (F0 m 226 ls [])) :
    ∀ (n : Nat) (x1 : Int32) (x2 : Int32) (z : Mem) (ls : Array Slot) (H : Heap) (locs : List Loc), Wd LY G b z H → va_S (rgL LY b) s.heap H locs → lv_has ls 4 [(0, .ref (ad LY b 0 0)), (1, .int x1), (2, .int x2)] → dn_Y_measure_152 k226 n x1 x2 z = some z0 → W p l e rm_Y_measure s m args below meth c H locs 0 0 (MQ below (QV LY G b z0) args s 0 0 (rgL LY b)) (F0 m 152 ls []) := by
  obtain ⟨hx, hb, hml, hr, hown, hts, hlk, hK⟩ := C
  intro n
  induction n with
  | zero =>
    intro x1 x2 z ls H locs  hW hS hl h
    cases h
  | succ n ih =>
    intro x1 x2 z ls H locs  hW hS hl h
    rw [dn_Y_measure_152] at h
    refine lv_iload_n hx hb d_Y_measure_152 rfl (lv_at hl 2 rfl) ?_
    refine lv_bipush (v := (8 : Int32)) hx hb d_Y_measure_153 (by decide) ?_
    refine lv_icmp_ge (tgt := 226) hx hb d_Y_measure_155 (by decide) (fun hc => ?_) (fun hc => ?_)
    · have h := ite_t h hc
      exact hk226 x1 z ls H locs  hW hS (lv_sub hl [0, 1] rfl) h
    · have h := ite_f h hc
      refine lv_iconst (v := (0 : Int32)) hx hb d_Y_measure_158 (by decide) ?_
      refine lv_istore_n hx hb d_Y_measure_159 rfl hl (by decide) rfl (fun ls hl => ?_)
      have hl : lv_has ls 4 [(3, .int (0 : Int32)), (0, .ref (ad LY b 0 0)), (1, .int x1), (2, .int x2)] := hl
      refine w_Y_measure_160 ⟨hx, hb, hml, hr, hown, hts, hlk, hK⟩ (fun x1 x2 z30 ls H locs  hW hS hl h => ?_) FU x1 x2 (0 : Int32) z ls H locs  hW hS (lv_sub hl [1, 2, 3, 0] rfl) h
      · refine lv_iinc (k := 2) (v := (x2 + (1 : Int32))) hx hb d_Y_measure_220 hl rfl rfl (by decide) rfl (fun ls hl => ?_)
        have hl : lv_has ls 4 [(2, .int (x2 + (1 : Int32))), (0, .ref (ad LY b 0 0)), (1, .int x1)] := hl
        refine lv_goto (tgt := 152) hx hb d_Y_measure_223 (by decide) ?_
        exact ih x1 (x2 + (1 : Int32)) z30 ls H locs  hW hS (lv_sub hl [1, 2, 0] rfl) h
set_option maxHeartbeats 4000000 in
set_option maxRecDepth 100000 in
theorem w_Y_measure_144 {p : Program} {l : Launch} {e : Env} {s : State} {m : MethodId} {args : Array Value} {below : List Frame} {meth : Method} {c : Code} {G : GG} {b : Nat} {z0 : Mem} (C : Cx y_Y_measure b_Y_measure 4 none p s m args meth c G) {k232 : Mem → Option Mem} 
    (hk232 : ∀  (z : Mem) (ls : Array Slot) (H : Heap) (locs : List Loc), Wd LY G b z H → va_S (rgL LY b) s.heap H locs → lv_has ls 4 [] → k232  z = some z0 → W p l e rm_Y_measure s m args below meth c H locs 0 0 (MQ below (QV LY G b z0) args s 0 0 (rgL LY b)) (F0 m 232 ls [])) :
    ∀ (n : Nat) (x1 : Int32) (z : Mem) (ls : Array Slot) (H : Heap) (locs : List Loc), Wd LY G b z H → va_S (rgL LY b) s.heap H locs → lv_has ls 4 [(0, .ref (ad LY b 0 0)), (1, .int x1)] → dn_Y_measure_144 k232 n x1 z = some z0 → W p l e rm_Y_measure s m args below meth c H locs 0 0 (MQ below (QV LY G b z0) args s 0 0 (rgL LY b)) (F0 m 144 ls []) := by
  obtain ⟨hx, hb, hml, hr, hown, hts, hlk, hK⟩ := C
  intro n
  induction n with
  | zero =>
    intro x1 z ls H locs  hW hS hl h
    cases h
  | succ n ih =>
    intro x1 z ls H locs  hW hS hl h
    rw [dn_Y_measure_144] at h
    refine lv_iload_n hx hb d_Y_measure_144 rfl (lv_at hl 1 rfl) ?_
    refine lv_bipush (v := (8 : Int32)) hx hb d_Y_measure_145 (by decide) ?_
    refine lv_icmp_ge (tgt := 232) hx hb d_Y_measure_147 (by decide) (fun hc => ?_) (fun hc => ?_)
    · have h := ite_t h hc
      exact hk232  z ls H locs  hW hS (lv_sub hl [] rfl) h
    · have h := ite_f h hc
      refine lv_iconst (v := (0 : Int32)) hx hb d_Y_measure_150 (by decide) ?_
      refine lv_istore_n hx hb d_Y_measure_151 rfl hl (by decide) rfl (fun ls hl => ?_)
      have hl : lv_has ls 4 [(2, .int (0 : Int32)), (0, .ref (ad LY b 0 0)), (1, .int x1)] := hl
      refine w_Y_measure_152 ⟨hx, hb, hml, hr, hown, hts, hlk, hK⟩ (fun x1 z31 ls H locs  hW hS hl h => ?_) FU x1 (0 : Int32) z ls H locs  hW hS (lv_sub hl [1, 2, 0] rfl) h
      · refine lv_iinc (k := 1) (v := (x1 + (1 : Int32))) hx hb d_Y_measure_226 hl rfl rfl (by decide) rfl (fun ls hl => ?_)
        have hl : lv_has ls 4 [(1, .int (x1 + (1 : Int32))), (0, .ref (ad LY b 0 0))] := hl
        refine lv_goto (tgt := 144) hx hb d_Y_measure_229 (by decide) ?_
        exact ih (x1 + (1 : Int32)) z31 ls H locs  hW hS (lv_sub hl [1, 0] rfl) h
set_option maxHeartbeats 4000000 in
set_option maxRecDepth 100000 in
theorem c_Y_measure (l : Launch) (G : GG) (b : Nat) (z : Mem) (z0 : Mem) (h : dn_Y_measure z = some z0) : MtW l y_Y_measure b_Y_measure 4 none rm_Y_measure LY G b [.ref (ad LY b 0 0)] z (QV LY G b z0) := by
  refine mtW_of (by decide) (Nat.le_of_ble_eq_true rfl) ?_
  intro p e s m args below meth c ls H locs C hW hS hl
  obtain ⟨hx, hb, hml, hr, hown, hts, hlk, hK⟩ := C
  have hl : lv_has ls 4 [(0, .ref (ad LY b 0 0))] := hl
  unfold dn_Y_measure at h
  refine lv_iconst (v := (0 : Int32)) hx hb d_Y_measure_0 (by decide) ?_
  refine lv_istore_n hx hb d_Y_measure_1 rfl hl (by decide) rfl (fun ls hl => ?_)
  have hl : lv_has ls 4 [(1, .int (0 : Int32)), (0, .ref (ad LY b 0 0))] := hl
  refine w_Y_measure_2 ⟨hx, hb, hml, hr, hown, hts, hlk, hK⟩ (fun z6 ls H locs  hW hS hl h => ?_) FU (0 : Int32) z ls H locs  hW hS (lv_sub hl [1, 0] rfl) h
  · refine lv_iconst (v := (0 : Int32)) hx hb d_Y_measure_50 (by decide) ?_
    refine lv_istore_n hx hb d_Y_measure_51 rfl hl (by decide) rfl (fun ls hl => ?_)
    have hl : lv_has ls 4 [(1, .int (0 : Int32)), (0, .ref (ad LY b 0 0))] := hl
    refine w_Y_measure_52 ⟨hx, hb, hml, hr, hown, hts, hlk, hK⟩ (fun z23 ls H locs  hW hS hl h => ?_) FU (0 : Int32) z6 ls H locs  hW hS (lv_sub hl [1, 0] rfl) h
    · refine lv_iconst (v := (0 : Int32)) hx hb d_Y_measure_142 (by decide) ?_
      refine lv_istore_n hx hb d_Y_measure_143 rfl hl (by decide) rfl (fun ls hl => ?_)
      have hl : lv_has ls 4 [(1, .int (0 : Int32)), (0, .ref (ad LY b 0 0))] := hl
      refine w_Y_measure_144 ⟨hx, hb, hml, hr, hown, hts, hlk, hK⟩ (fun z32 ls H locs  hW hS hl h => ?_) FU (0 : Int32) z23 ls H locs  hW hS (lv_sub hl [1, 0] rfl) h
      · exact q_vret hx hb hr hlk hK hW hS h d_Y_measure_232
set_option maxHeartbeats 4000000 in
set_option maxRecDepth 100000 in
theorem w_Y_clear_32 {p : Program} {l : Launch} {e : Env} {s : State} {m : MethodId} {args : Array Value} {below : List Frame} {meth : Method} {c : Code} {G : GG} {b : Nat} {z0 : Mem} (C : Cx y_Y_clear b_Y_clear 2 none p s m args meth c G) {k51 : Mem → Option Mem} 
    (hk51 : ∀  (z : Mem) (ls : Array Slot) (H : Heap) (locs : List Loc), Wd LY G b z H → va_S (rgL LY b) s.heap H locs → lv_has ls 2 [(0, .ref (ad LY b 0 0))] → k51  z = some z0 → W p l e rm_Y_clear s m args below meth c H locs 0 0 (MQ below (QV LY G b z0) args s 0 0 (rgL LY b)) (F0 m 51 ls [])) :
    ∀ (n : Nat) (x1 : Int32) (z : Mem) (ls : Array Slot) (H : Heap) (locs : List Loc), Wd LY G b z H → va_S (rgL LY b) s.heap H locs → lv_has ls 2 [(0, .ref (ad LY b 0 0)), (1, .int x1)] → dn_Y_clear_32 k51 n x1 z = some z0 → W p l e rm_Y_clear s m args below meth c H locs 0 0 (MQ below (QV LY G b z0) args s 0 0 (rgL LY b)) (F0 m 32 ls []) := by
  obtain ⟨hx, hb, hml, hr, hown, hts, hlk, hK⟩ := C
  intro n
  induction n with
  | zero =>
    intro x1 z ls H locs  hW hS hl h
    cases h
  | succ n ih =>
    intro x1 z ls H locs  hW hS hl h
    rw [dn_Y_clear_32] at h
    refine lv_iload_n hx hb d_Y_clear_32 rfl (lv_at hl 1 rfl) ?_
    refine lv_bipush (v := (64 : Int32)) hx hb d_Y_clear_33 (by decide) ?_
    refine lv_icmp_ge (tgt := 51) hx hb d_Y_clear_35 (by decide) (fun hc => ?_) (fun hc => ?_)
    · have h := ite_t h hc
      exact hk51  z ls H locs  hW hS (lv_sub hl [0] rfl) h
    · have h := ite_f h hc
      refine lv_aload_n hx hb d_Y_clear_38 rfl (lv_at hl 0 rfl) ?_
      refine q_get (L := LY) (kc := 0) (ki := 0) (C := "DeficitNetModel") (T := T_Y) (N := 40) (ci := 5) (v := .ref (ad LY b 24 0)) hx hb hts in_Y hown hK hW okY0 rfl rfl 25 (by decide) t_505 rfl d_Y_clear_39 ?_
      refine lv_iload_n hx hb d_Y_clear_42 rfl (lv_at hl 1 rfl) ?_
      refine lv_iconst (v := (0 : Int32)) hx hb d_Y_clear_43 (by decide) ?_
      obtain ⟨j8, ej8, h⟩ := bnd h
      refine q_iast (L := LY) (kc := 24) (ki := 0) hx hb hK hW hS okY24 (fun _ => rfl) ej8 d_Y_clear_44 (fun H locs z9 ez9 hW hS => ?_)
      have h := stM_n h ez9
      refine lv_iinc (k := 1) (v := (x1 + (1 : Int32))) hx hb d_Y_clear_45 hl rfl rfl (by decide) rfl (fun ls hl => ?_)
      have hl : lv_has ls 2 [(1, .int (x1 + (1 : Int32))), (0, .ref (ad LY b 0 0))] := hl
      refine lv_goto (tgt := 32) hx hb d_Y_clear_48 (by decide) ?_
      exact ih (x1 + (1 : Int32)) z9 ls H locs  hW hS (lv_sub hl [1, 0] rfl) h
set_option maxHeartbeats 4000000 in
set_option maxRecDepth 100000 in
theorem c_Y_clear (l : Launch) (G : GG) (b : Nat) (z : Mem) (z0 : Mem) (h : dn_Y_clear z = some z0) : MtW l y_Y_clear b_Y_clear 2 none rm_Y_clear LY G b [.ref (ad LY b 0 0)] z (QV LY G b z0) := by
  refine mtW_of (by decide) (Nat.le_of_ble_eq_true rfl) ?_
  intro p e s m args below meth c ls H locs C hW hS hl
  obtain ⟨hx, hb, hml, hr, hown, hts, hlk, hK⟩ := C
  have hl : lv_has ls 2 [(0, .ref (ad LY b 0 0))] := hl
  unfold dn_Y_clear at h
  refine lv_aload_n hx hb d_Y_clear_0 rfl (lv_at hl 0 rfl) ?_
  refine lv_iconst (v := (0 : Int32)) hx hb d_Y_clear_1 (by decide) ?_
  refine q_put (L := LY) (kc := 0) (ki := 0) (C := "DeficitNetModel") (T := T_Y) (N := 40) (ci := 5) hx hb hts in_Y ty_Y tyok_Y nm_Y hown hK hW hS okY0 rfl rfl 0 (by decide) t_480 rfl rfl rfl (Nat.le_of_ble_eq_true rfl) rfl d_Y_clear_2 (fun H locs z1 ez1 hW hS => ?_)
  have h := stM_n h ez1
  refine lv_aload_n hx hb d_Y_clear_5 rfl (lv_at hl 0 rfl) ?_
  refine lv_iconst (v := (0 : Int32)) hx hb d_Y_clear_6 (by decide) ?_
  refine q_put (L := LY) (kc := 0) (ki := 0) (C := "DeficitNetModel") (T := T_Y) (N := 40) (ci := 5) hx hb hts in_Y ty_Y tyok_Y nm_Y hown hK hW hS okY0 rfl rfl 9 (by decide) t_489 rfl rfl rfl (Nat.le_of_ble_eq_true rfl) rfl d_Y_clear_7 (fun H locs z2 ez2 hW hS => ?_)
  have h := stM_n h ez2
  refine lv_aload_n hx hb d_Y_clear_10 rfl (lv_at hl 0 rfl) ?_
  refine lv_iconst (v := (0 : Int32)) hx hb d_Y_clear_11 (by decide) ?_
  obtain ⟨_, u3, h⟩ := bnd h
  refine q_put (L := LY) (kc := 0) (ki := 0) (C := "DeficitNetModel") (T := T_Y) (N := 40) (ci := 5) hx hb hts in_Y ty_Y tyok_Y nm_Y hown hK hW hS okY0 rfl rfl 35 (by decide) t_515 rfl (bz_nar (bz_some u3)) (bz_fit (bz_some u3)) (Nat.le_of_ble_eq_true rfl) rfl d_Y_clear_12 (fun H locs z4 ez4 hW hS => ?_)
  have h := stM_n h ez4
  refine lv_aload_n hx hb d_Y_clear_15 rfl (lv_at hl 0 rfl) ?_
  refine lv_iconst (v := (0 : Int32)) hx hb d_Y_clear_16 (by decide) ?_
  refine q_put (L := LY) (kc := 0) (ki := 0) (C := "DeficitNetModel") (T := T_Y) (N := 40) (ci := 5) hx hb hts in_Y ty_Y tyok_Y nm_Y hown hK hW hS okY0 rfl rfl 36 (by decide) t_516 rfl rfl rfl (Nat.le_of_ble_eq_true rfl) rfl d_Y_clear_17 (fun H locs z5 ez5 hW hS => ?_)
  have h := stM_n h ez5
  refine lv_aload_n hx hb d_Y_clear_20 rfl (lv_at hl 0 rfl) ?_
  refine lv_iconst (v := (0 : Int32)) hx hb d_Y_clear_21 (by decide) ?_
  refine q_put (L := LY) (kc := 0) (ki := 0) (C := "DeficitNetModel") (T := T_Y) (N := 40) (ci := 5) hx hb hts in_Y ty_Y tyok_Y nm_Y hown hK hW hS okY0 rfl rfl 37 (by decide) t_517 rfl rfl rfl (Nat.le_of_ble_eq_true rfl) rfl d_Y_clear_22 (fun H locs z6 ez6 hW hS => ?_)
  have h := stM_n h ez6
  refine lv_aload_n hx hb d_Y_clear_25 rfl (lv_at hl 0 rfl) ?_
  refine lv_iconst (v := (0 : Int32)) hx hb d_Y_clear_26 (by decide) ?_
  refine q_put (L := LY) (kc := 0) (ki := 0) (C := "DeficitNetModel") (T := T_Y) (N := 40) (ci := 5) hx hb hts in_Y ty_Y tyok_Y nm_Y hown hK hW hS okY0 rfl rfl 38 (by decide) t_518 rfl rfl rfl (Nat.le_of_ble_eq_true rfl) rfl d_Y_clear_27 (fun H locs z7 ez7 hW hS => ?_)
  have h := stM_n h ez7
  refine lv_iconst (v := (0 : Int32)) hx hb d_Y_clear_30 (by decide) ?_
  refine lv_istore_n hx hb d_Y_clear_31 rfl hl (by decide) rfl (fun ls hl => ?_)
  have hl : lv_has ls 2 [(1, .int (0 : Int32)), (0, .ref (ad LY b 0 0))] := hl
  refine w_Y_clear_32 ⟨hx, hb, hml, hr, hown, hts, hlk, hK⟩ (fun z10 ls H locs  hW hS hl h => ?_) FU (0 : Int32) z7 ls H locs  hW hS (lv_sub hl [1, 0] rfl) h
  · refine lv_aload_n hx hb d_Y_clear_51 rfl (lv_at hl 0 rfl) ?_
    obtain ⟨z11, ez11, h⟩ := bnd h
    refine q_callVv (C := "DeficitNetModel") (As := []) (rest := []) hx hb hml hown hts hK hW hS (c_Y_measure l G b z10 z11 ez11) f_Y_measure t_472 ⟨rfl, rfl⟩ ⟨Nat.le_of_ble_eq_true rfl, Nat.le_of_ble_eq_true rfl⟩ (q_recv (L := LY) (kc := 0) (ki := 0) hK hW okY0 rfl rfl) rfl hl.1 rfl (Nat.le_of_ble_eq_true rfl) d_Y_clear_52 (fun H locs hW hS => ?_)
    exact q_vret hx hb hr hlk hK hW hS h d_Y_clear_55
set_option maxHeartbeats 4000000 in
set_option maxRecDepth 100000 in
theorem c_Y_node (l : Launch) (x0 : Int32) (r0 : Int32) (h : dn_Y_node x0 = some r0) : MtP l y_Y_node b_Y_node 1 (some .boolean) rm_Y_node [.int x0] (QPI r0) := by
  refine mtP_of (by decide) (Nat.le_of_ble_eq_true rfl) ?_
  intro p e s m args below meth c ls C hl
  obtain ⟨hx, hb, hml, hr, hown, hts, hlk⟩ := C
  have hl : lv_has ls 1 [(0, .int x0)] := hl
  unfold dn_Y_node at h
  refine lv_iload_n hx hb d_Y_node_0 rfl (lv_at hl 0 rfl) ?_
  refine lv_if_lt (tgt := 14) hx hb d_Y_node_1 (by decide) (fun hc => ?_) (fun hc => ?_)
  · have h := ite_t h hc
    refine lv_iconst (v := (0 : Int32)) hx hb d_Y_node_14 (by decide) ?_
    obtain ⟨_, u1, h⟩ := bnd h
    exact q_zretP hx hb hr hlk (bz_some u1) h d_Y_node_15
  · have h := ite_f h hc
    refine lv_iload_n hx hb d_Y_node_4 rfl (lv_at hl 0 rfl) ?_
    refine lv_bipush (v := (7 : Int32)) hx hb d_Y_node_5 (by decide) ?_
    refine lv_icmp_gt (tgt := 14) hx hb d_Y_node_7 (by decide) (fun hc => ?_) (fun hc => ?_)
    · have h := ite_t h hc
      refine lv_iconst (v := (0 : Int32)) hx hb d_Y_node_14 (by decide) ?_
      obtain ⟨_, u2, h⟩ := bnd h
      exact q_zretP hx hb hr hlk (bz_some u2) h d_Y_node_15
    · have h := ite_f h hc
      refine lv_iconst (v := (1 : Int32)) hx hb d_Y_node_10 (by decide) ?_
      refine lv_goto (tgt := 15) hx hb d_Y_node_11 (by decide) ?_
      obtain ⟨_, u3, h⟩ := bnd h
      exact q_zretP hx hb hr hlk (bz_some u3) h d_Y_node_15
set_option maxHeartbeats 4000000 in
set_option maxRecDepth 100000 in
theorem c_Y_within (l : Launch) (x0 : Int32) (x1 : Int32) (x2 : Int32) (r0 : Int32) (h : dn_Y_within x0 x1 x2 = some r0) : MtP l y_Y_within b_Y_within 3 (some .boolean) rm_Y_within [.int x0, .int x1, .int x2] (QPI r0) := by
  refine mtP_of (by decide) (Nat.le_of_ble_eq_true rfl) ?_
  intro p e s m args below meth c ls C hl
  obtain ⟨hx, hb, hml, hr, hown, hts, hlk⟩ := C
  have hl : lv_has ls 3 [(0, .int x0), (1, .int x1), (2, .int x2)] := hl
  unfold dn_Y_within at h
  refine lv_iload_n hx hb d_Y_within_0 rfl (lv_at hl 0 rfl) ?_
  refine lv_iload_n hx hb d_Y_within_1 rfl (lv_at hl 1 rfl) ?_
  refine lv_icmp_lt (tgt := 14) hx hb d_Y_within_2 (by decide) (fun hc => ?_) (fun hc => ?_)
  · have h := ite_t h hc
    refine lv_iconst (v := (0 : Int32)) hx hb d_Y_within_14 (by decide) ?_
    obtain ⟨_, u1, h⟩ := bnd h
    exact q_zretP hx hb hr hlk (bz_some u1) h d_Y_within_15
  · have h := ite_f h hc
    refine lv_iload_n hx hb d_Y_within_5 rfl (lv_at hl 0 rfl) ?_
    refine lv_iload_n hx hb d_Y_within_6 rfl (lv_at hl 2 rfl) ?_
    refine lv_icmp_gt (tgt := 14) hx hb d_Y_within_7 (by decide) (fun hc => ?_) (fun hc => ?_)
    · have h := ite_t h hc
      refine lv_iconst (v := (0 : Int32)) hx hb d_Y_within_14 (by decide) ?_
      obtain ⟨_, u2, h⟩ := bnd h
      exact q_zretP hx hb hr hlk (bz_some u2) h d_Y_within_15
    · have h := ite_f h hc
      refine lv_iconst (v := (1 : Int32)) hx hb d_Y_within_10 (by decide) ?_
      refine lv_goto (tgt := 15) hx hb d_Y_within_11 (by decide) ?_
      obtain ⟨_, u3, h⟩ := bnd h
      exact q_zretP hx hb hr hlk (bz_some u3) h d_Y_within_15
set_option maxHeartbeats 4000000 in
set_option maxRecDepth 100000 in
theorem w_Y_link_131 {p : Program} {l : Launch} {e : Env} {s : State} {m : MethodId} {args : Array Value} {below : List Frame} {meth : Method} {c : Code} {G : GG} {b : Nat} {r0 : Int32} {z0 : Mem} (C : Cx y_Y_link b_Y_link 7 (some .int) p s m args meth c G) {k167 : Mem → Option (Int32 × Mem)} 
    (hk167 : ∀  (z : Mem) (ls : Array Slot) (H : Heap) (locs : List Loc), Wd LY G b z H → va_S (rgL LY b) s.heap H locs → lv_has ls 7 [(0, .ref (ad LY b 0 0))] → k167  z = some (r0, z0) → W p l e rm_Y_link s m args below meth c H locs 0 0 (MQ below (QI LY G b r0 z0) args s 0 0 (rgL LY b)) (F0 m 167 ls [])) :
    ∀ (n : Nat) (x6 : Int32) (z : Mem) (ls : Array Slot) (H : Heap) (locs : List Loc), Wd LY G b z H → va_S (rgL LY b) s.heap H locs → lv_has ls 7 [(0, .ref (ad LY b 0 0)), (6, .int x6)] → dn_Y_link_131 k167 n x6 z = some (r0, z0) → W p l e rm_Y_link s m args below meth c H locs 0 0 (MQ below (QI LY G b r0 z0) args s 0 0 (rgL LY b)) (F0 m 131 ls []) := by
  obtain ⟨hx, hb, hml, hr, hown, hts, hlk, hK⟩ := C
  intro n
  induction n with
  | zero =>
    intro x6 z ls H locs  hW hS hl h
    cases h
  | succ n ih =>
    intro x6 z ls H locs  hW hS hl h
    rw [dn_Y_link_131] at h
    refine lv_iload hx hb d_Y_link_131 (lv_at hl 1 rfl) ?_
    refine lv_iconst (v := (2 : Int32)) hx hb d_Y_link_133 (by decide) ?_
    refine lv_aload_n hx hb d_Y_link_134 rfl (lv_at hl 0 rfl) ?_
    refine q_get (L := LY) (kc := 0) (ki := 0) (C := "DeficitNetModel") (T := T_Y) (N := 40) (ci := 5) (v := .int (z.1 0 0 0)) hx hb hts in_Y hown hK hW okY0 rfl rfl 0 (by decide) t_480 rfl d_Y_link_135 ?_
    refine lv_imul hx hb d_Y_link_138 ?_
    refine lv_iconst (v := (1 : Int32)) hx hb d_Y_link_139 (by decide) ?_
    refine lv_iadd hx hb d_Y_link_140 ?_
    refine lv_icmp_gt (tgt := 167) hx hb d_Y_link_141 (by decide) (fun hc => ?_) (fun hc => ?_)
    · have h := ite_t h hc
      exact hk167  z ls H locs  hW hS (lv_sub hl [0] rfl) h
    · have h := ite_f h hc
      refine lv_aload_n hx hb d_Y_link_144 rfl (lv_at hl 0 rfl) ?_
      refine q_get (L := LY) (kc := 0) (ki := 0) (C := "DeficitNetModel") (T := T_Y) (N := 40) (ci := 5) (v := .ref (ad LY b 6 0)) hx hb hts in_Y hown hK hW okY0 rfl rfl 6 (by decide) t_486 rfl d_Y_link_145 ?_
      refine lv_iload hx hb d_Y_link_148 (lv_at hl 1 rfl) ?_
      refine lv_bipush (v := (8 : Int32)) hx hb d_Y_link_150 (by decide) ?_
      obtain ⟨j17, ej17, h⟩ := bnd h
      refine q_iast (L := LY) (kc := 6) (ki := 0) hx hb hK hW hS okY6 (fun _ => rfl) ej17 d_Y_link_152 (fun H locs z18 ez18 hW hS => ?_)
      have h := stM_n h ez18
      refine lv_aload_n hx hb d_Y_link_153 rfl (lv_at hl 0 rfl) ?_
      refine q_get (L := LY) (kc := 0) (ki := 0) (C := "DeficitNetModel") (T := T_Y) (N := 40) (ci := 5) (v := .ref (ad LY b 7 0)) hx hb hts in_Y hown hK hW okY0 rfl rfl 7 (by decide) t_487 rfl d_Y_link_154 ?_
      refine lv_iload hx hb d_Y_link_157 (lv_at hl 1 rfl) ?_
      refine lv_iconst (v := (4 : Int32)) hx hb d_Y_link_159 (by decide) ?_
      obtain ⟨j19, ej19, h⟩ := bnd h
      refine q_iast (L := LY) (kc := 7) (ki := 0) hx hb hK hW hS okY7 (fun _ => rfl) ej19 d_Y_link_160 (fun H locs z20 ez20 hW hS => ?_)
      have h := stM_n h ez20
      refine lv_iinc (k := 1) (v := (x6 + (1 : Int32))) hx hb d_Y_link_161 hl rfl rfl (by decide) rfl (fun ls hl => ?_)
      have hl : lv_has ls 7 [(6, .int (x6 + (1 : Int32))), (0, .ref (ad LY b 0 0))] := hl
      refine lv_goto (tgt := 131) hx hb d_Y_link_164 (by decide) ?_
      exact ih (x6 + (1 : Int32)) z20 ls H locs  hW hS (lv_sub hl [1, 0] rfl) h
set_option maxHeartbeats 4000000 in
set_option maxRecDepth 100000 in
theorem c_Y_link (l : Launch) (G : GG) (b : Nat) (x1 : Int32) (x2 : Int32) (x3 : Int32) (x4 : Int32) (x5 : Int32) (z : Mem) (r0 : Int32) (z0 : Mem) (h : dn_Y_link x1 x2 x3 x4 x5 z = some (r0, z0)) : MtW l y_Y_link b_Y_link 7 (some .int) rm_Y_link LY G b [.ref (ad LY b 0 0), .int x1, .int x2, .int x3, .int x4, .int x5] z (QI LY G b r0 z0) := by
  refine mtW_of (by decide) (Nat.le_of_ble_eq_true rfl) ?_
  intro p e s m args below meth c ls H locs C hW hS hl
  obtain ⟨hx, hb, hml, hr, hown, hts, hlk, hK⟩ := C
  have hl : lv_has ls 7 [(0, .ref (ad LY b 0 0)), (1, .int x1), (2, .int x2), (3, .int x3), (4, .int x4), (5, .int x5)] := hl
  unfold dn_Y_link at h
  refine lv_aload_n hx hb d_Y_link_0 rfl (lv_at hl 0 rfl) ?_
  refine q_get (L := LY) (kc := 0) (ki := 0) (C := "DeficitNetModel") (T := T_Y) (N := 40) (ci := 5) (v := .int (z.1 0 0 35)) hx hb hts in_Y hown hK hW okY0 rfl rfl 35 (by decide) t_515 rfl d_Y_link_1 ?_
  refine lv_if_ne (tgt := 35) hx hb d_Y_link_4 (by decide) (fun hc => ?_) (fun hc => ?_)
  · have h := ite_f h hc
    refine lv_iconst (v := (-1 : Int32)) hx hb d_Y_link_35 (by decide) ?_
    exact q_iret hx hb hr hlk hK hW hS h d_Y_link_36
  · have h := ite_t h hc
    refine lv_aload_n hx hb d_Y_link_7 rfl (lv_at hl 0 rfl) ?_
    refine q_get (L := LY) (kc := 0) (ki := 0) (C := "DeficitNetModel") (T := T_Y) (N := 40) (ci := 5) (v := .int (z.1 0 0 0)) hx hb hts in_Y hown hK hW okY0 rfl rfl 0 (by decide) t_480 rfl d_Y_link_8 ?_
    refine lv_bipush (v := (12 : Int32)) hx hb d_Y_link_11 (by decide) ?_
    refine lv_icmp_eq (tgt := 35) hx hb d_Y_link_13 (by decide) (fun hc => ?_) (fun hc => ?_)
    · have h := ite_t h hc
      refine lv_iconst (v := (-1 : Int32)) hx hb d_Y_link_35 (by decide) ?_
      exact q_iret hx hb hr hlk hK hW hS h d_Y_link_36
    · have h := ite_f h hc
      refine lv_iload_n hx hb d_Y_link_16 rfl (lv_at hl 1 rfl) ?_
      obtain ⟨v1, ev1, h⟩ := bnd h
      refine q_callPi (As := [.int x1]) (rest := []) hx hb hml hown hts hW hS (c_Y_node l x1 v1 ev1) f_Y_node t_607 ⟨rfl, rfl⟩ ⟨Nat.le_of_ble_eq_true rfl, Nat.le_of_ble_eq_true rfl⟩ rfl hl.1 rfl (Nat.le_of_ble_eq_true rfl) d_Y_link_17 (fun H locs hW hS => ?_)
      refine lv_if_eq (tgt := 35) hx hb d_Y_link_20 (by decide) (fun hc => ?_) (fun hc => ?_)
      · have h := ite_t h hc
        refine lv_iconst (v := (-1 : Int32)) hx hb d_Y_link_35 (by decide) ?_
        exact q_iret hx hb hr hlk hK hW hS h d_Y_link_36
      · have h := ite_f h hc
        refine lv_iload_n hx hb d_Y_link_23 rfl (lv_at hl 2 rfl) ?_
        obtain ⟨v2, ev2, h⟩ := bnd h
        refine q_callPi (As := [.int x2]) (rest := []) hx hb hml hown hts hW hS (c_Y_node l x2 v2 ev2) f_Y_node t_607 ⟨rfl, rfl⟩ ⟨Nat.le_of_ble_eq_true rfl, Nat.le_of_ble_eq_true rfl⟩ rfl hl.1 rfl (Nat.le_of_ble_eq_true rfl) d_Y_link_24 (fun H locs hW hS => ?_)
        refine lv_if_eq (tgt := 35) hx hb d_Y_link_27 (by decide) (fun hc => ?_) (fun hc => ?_)
        · have h := ite_t h hc
          refine lv_iconst (v := (-1 : Int32)) hx hb d_Y_link_35 (by decide) ?_
          exact q_iret hx hb hr hlk hK hW hS h d_Y_link_36
        · have h := ite_f h hc
          refine lv_iload_n hx hb d_Y_link_30 rfl (lv_at hl 1 rfl) ?_
          refine lv_iload_n hx hb d_Y_link_31 rfl (lv_at hl 2 rfl) ?_
          refine lv_icmp_ne (tgt := 37) hx hb d_Y_link_32 (by decide) (fun hc => ?_) (fun hc => ?_)
          · have h := ite_f h hc
            refine lv_iload_n hx hb d_Y_link_37 rfl (lv_at hl 3 rfl) ?_
            refine lv_iconst (v := (1 : Int32)) hx hb d_Y_link_38 (by decide) ?_
            refine lv_bipush (v := (100 : Int32)) hx hb d_Y_link_39 (by decide) ?_
            obtain ⟨v3, ev3, h⟩ := bnd h
            refine q_callPi (As := [.int x3, .int (1 : Int32), .int (100 : Int32)]) (rest := []) hx hb hml hown hts hW hS (c_Y_within l x3 (1 : Int32) (100 : Int32) v3 ev3) f_Y_within t_610 ⟨rfl, rfl⟩ ⟨Nat.le_of_ble_eq_true rfl, Nat.le_of_ble_eq_true rfl⟩ rfl hl.1 rfl (Nat.le_of_ble_eq_true rfl) d_Y_link_41 (fun H locs hW hS => ?_)
            refine lv_if_eq (tgt := 69) hx hb d_Y_link_44 (by decide) (fun hc => ?_) (fun hc => ?_)
            · have h := ite_t h hc
              refine lv_iconst (v := (-1 : Int32)) hx hb d_Y_link_69 (by decide) ?_
              exact q_iret hx hb hr hlk hK hW hS h d_Y_link_70
            · have h := ite_f h hc
              refine lv_iload hx hb d_Y_link_47 (lv_at hl 4 rfl) ?_
              refine lv_iconst (v := (1 : Int32)) hx hb d_Y_link_49 (by decide) ?_
              refine lv_bipush (v := (16 : Int32)) hx hb d_Y_link_50 (by decide) ?_
              obtain ⟨v4, ev4, h⟩ := bnd h
              refine q_callPi (As := [.int x4, .int (1 : Int32), .int (16 : Int32)]) (rest := []) hx hb hml hown hts hW hS (c_Y_within l x4 (1 : Int32) (16 : Int32) v4 ev4) f_Y_within t_610 ⟨rfl, rfl⟩ ⟨Nat.le_of_ble_eq_true rfl, Nat.le_of_ble_eq_true rfl⟩ rfl hl.1 rfl (Nat.le_of_ble_eq_true rfl) d_Y_link_52 (fun H locs hW hS => ?_)
              refine lv_if_eq (tgt := 69) hx hb d_Y_link_55 (by decide) (fun hc => ?_) (fun hc => ?_)
              · have h := ite_t h hc
                refine lv_iconst (v := (-1 : Int32)) hx hb d_Y_link_69 (by decide) ?_
                exact q_iret hx hb hr hlk hK hW hS h d_Y_link_70
              · have h := ite_f h hc
                refine lv_iload hx hb d_Y_link_58 (lv_at hl 5 rfl) ?_
                refine lv_iconst (v := (0 : Int32)) hx hb d_Y_link_60 (by decide) ?_
                refine lv_bipush (v := (40 : Int32)) hx hb d_Y_link_61 (by decide) ?_
                obtain ⟨v5, ev5, h⟩ := bnd h
                refine q_callPi (As := [.int x5, .int (0 : Int32), .int (40 : Int32)]) (rest := []) hx hb hml hown hts hW hS (c_Y_within l x5 (0 : Int32) (40 : Int32) v5 ev5) f_Y_within t_610 ⟨rfl, rfl⟩ ⟨Nat.le_of_ble_eq_true rfl, Nat.le_of_ble_eq_true rfl⟩ rfl hl.1 rfl (Nat.le_of_ble_eq_true rfl) d_Y_link_63 (fun H locs hW hS => ?_)
                refine lv_if_ne (tgt := 71) hx hb d_Y_link_66 (by decide) (fun hc => ?_) (fun hc => ?_)
                · have h := ite_f h hc
                  refine lv_aload_n hx hb d_Y_link_71 rfl (lv_at hl 0 rfl) ?_
                  refine q_get (L := LY) (kc := 0) (ki := 0) (C := "DeficitNetModel") (T := T_Y) (N := 40) (ci := 5) (v := .ref (ad LY b 1 0)) hx hb hts in_Y hown hK hW okY0 rfl rfl 1 (by decide) t_481 rfl d_Y_link_72 ?_
                  refine lv_aload_n hx hb d_Y_link_75 rfl (lv_at hl 0 rfl) ?_
                  refine q_get (L := LY) (kc := 0) (ki := 0) (C := "DeficitNetModel") (T := T_Y) (N := 40) (ci := 5) (v := .int (z.1 0 0 0)) hx hb hts in_Y hown hK hW okY0 rfl rfl 0 (by decide) t_480 rfl d_Y_link_76 ?_
                  refine lv_iload_n hx hb d_Y_link_79 rfl (lv_at hl 1 rfl) ?_
                  obtain ⟨j6, ej6, h⟩ := bnd h
                  refine q_iast (L := LY) (kc := 1) (ki := 0) hx hb hK hW hS okY1 (fun _ => rfl) ej6 d_Y_link_80 (fun H locs z7 ez7 hW hS => ?_)
                  have h := stM_n h ez7
                  refine lv_aload_n hx hb d_Y_link_81 rfl (lv_at hl 0 rfl) ?_
                  refine q_get (L := LY) (kc := 0) (ki := 0) (C := "DeficitNetModel") (T := T_Y) (N := 40) (ci := 5) (v := .ref (ad LY b 2 0)) hx hb hts in_Y hown hK hW okY0 rfl rfl 2 (by decide) t_482 rfl d_Y_link_82 ?_
                  refine lv_aload_n hx hb d_Y_link_85 rfl (lv_at hl 0 rfl) ?_
                  refine q_get (L := LY) (kc := 0) (ki := 0) (C := "DeficitNetModel") (T := T_Y) (N := 40) (ci := 5) (v := .int (z7.1 0 0 0)) hx hb hts in_Y hown hK hW okY0 rfl rfl 0 (by decide) t_480 rfl d_Y_link_86 ?_
                  refine lv_iload_n hx hb d_Y_link_89 rfl (lv_at hl 2 rfl) ?_
                  obtain ⟨j8, ej8, h⟩ := bnd h
                  refine q_iast (L := LY) (kc := 2) (ki := 0) hx hb hK hW hS okY2 (fun _ => rfl) ej8 d_Y_link_90 (fun H locs z9 ez9 hW hS => ?_)
                  have h := stM_n h ez9
                  refine lv_aload_n hx hb d_Y_link_91 rfl (lv_at hl 0 rfl) ?_
                  refine q_get (L := LY) (kc := 0) (ki := 0) (C := "DeficitNetModel") (T := T_Y) (N := 40) (ci := 5) (v := .ref (ad LY b 3 0)) hx hb hts in_Y hown hK hW okY0 rfl rfl 3 (by decide) t_483 rfl d_Y_link_92 ?_
                  refine lv_aload_n hx hb d_Y_link_95 rfl (lv_at hl 0 rfl) ?_
                  refine q_get (L := LY) (kc := 0) (ki := 0) (C := "DeficitNetModel") (T := T_Y) (N := 40) (ci := 5) (v := .int (z9.1 0 0 0)) hx hb hts in_Y hown hK hW okY0 rfl rfl 0 (by decide) t_480 rfl d_Y_link_96 ?_
                  refine lv_iload_n hx hb d_Y_link_99 rfl (lv_at hl 3 rfl) ?_
                  obtain ⟨j10, ej10, h⟩ := bnd h
                  refine q_iast (L := LY) (kc := 3) (ki := 0) hx hb hK hW hS okY3 (fun _ => rfl) ej10 d_Y_link_100 (fun H locs z11 ez11 hW hS => ?_)
                  have h := stM_n h ez11
                  refine lv_aload_n hx hb d_Y_link_101 rfl (lv_at hl 0 rfl) ?_
                  refine q_get (L := LY) (kc := 0) (ki := 0) (C := "DeficitNetModel") (T := T_Y) (N := 40) (ci := 5) (v := .ref (ad LY b 4 0)) hx hb hts in_Y hown hK hW okY0 rfl rfl 4 (by decide) t_484 rfl d_Y_link_102 ?_
                  refine lv_aload_n hx hb d_Y_link_105 rfl (lv_at hl 0 rfl) ?_
                  refine q_get (L := LY) (kc := 0) (ki := 0) (C := "DeficitNetModel") (T := T_Y) (N := 40) (ci := 5) (v := .int (z11.1 0 0 0)) hx hb hts in_Y hown hK hW okY0 rfl rfl 0 (by decide) t_480 rfl d_Y_link_106 ?_
                  refine lv_iload hx hb d_Y_link_109 (lv_at hl 4 rfl) ?_
                  obtain ⟨j12, ej12, h⟩ := bnd h
                  refine q_iast (L := LY) (kc := 4) (ki := 0) hx hb hK hW hS okY4 (fun _ => rfl) ej12 d_Y_link_111 (fun H locs z13 ez13 hW hS => ?_)
                  have h := stM_n h ez13
                  refine lv_aload_n hx hb d_Y_link_112 rfl (lv_at hl 0 rfl) ?_
                  refine q_get (L := LY) (kc := 0) (ki := 0) (C := "DeficitNetModel") (T := T_Y) (N := 40) (ci := 5) (v := .ref (ad LY b 5 0)) hx hb hts in_Y hown hK hW okY0 rfl rfl 5 (by decide) t_485 rfl d_Y_link_113 ?_
                  refine lv_aload_n hx hb d_Y_link_116 rfl (lv_at hl 0 rfl) ?_
                  refine q_get (L := LY) (kc := 0) (ki := 0) (C := "DeficitNetModel") (T := T_Y) (N := 40) (ci := 5) (v := .int (z13.1 0 0 0)) hx hb hts in_Y hown hK hW okY0 rfl rfl 0 (by decide) t_480 rfl d_Y_link_117 ?_
                  refine lv_iload hx hb d_Y_link_120 (lv_at hl 5 rfl) ?_
                  obtain ⟨j14, ej14, h⟩ := bnd h
                  refine q_iast (L := LY) (kc := 5) (ki := 0) hx hb hK hW hS okY5 (fun _ => rfl) ej14 d_Y_link_122 (fun H locs z15 ez15 hW hS => ?_)
                  have h := stM_n h ez15
                  refine lv_iconst (v := (2 : Int32)) hx hb d_Y_link_123 (by decide) ?_
                  refine lv_aload_n hx hb d_Y_link_124 rfl (lv_at hl 0 rfl) ?_
                  refine q_get (L := LY) (kc := 0) (ki := 0) (C := "DeficitNetModel") (T := T_Y) (N := 40) (ci := 5) (v := .int (z15.1 0 0 0)) hx hb hts in_Y hown hK hW okY0 rfl rfl 0 (by decide) t_480 rfl d_Y_link_125 ?_
                  refine lv_imul hx hb d_Y_link_128 ?_
                  refine lv_topi (fun v16 ev16 => ?_)
                  have h := stV_n h ev16
                  refine lv_istore hx hb d_Y_link_129 hl (by decide) rfl (fun ls hl => ?_)
                  have hl : lv_has ls 7 [(6, .int v16), (0, .ref (ad LY b 0 0)), (1, .int x1), (2, .int x2), (3, .int x3), (4, .int x4), (5, .int x5)] := hl
                  refine w_Y_link_131 ⟨hx, hb, hml, hr, hown, hts, hlk, hK⟩ (fun z21 ls H locs  hW hS hl h => ?_) FU v16 z15 ls H locs  hW hS (lv_sub hl [1, 0] rfl) h
                  · refine lv_aload_n hx hb d_Y_link_167 rfl (lv_at hl 0 rfl) ?_
                    refine lv_dup hx hb d_Y_link_168 rfl ?_
                    refine q_get (L := LY) (kc := 0) (ki := 0) (C := "DeficitNetModel") (T := T_Y) (N := 40) (ci := 5) (v := .int (z21.1 0 0 0)) hx hb hts in_Y hown hK hW okY0 rfl rfl 0 (by decide) t_480 rfl d_Y_link_169 ?_
                    refine lv_iconst (v := (1 : Int32)) hx hb d_Y_link_172 (by decide) ?_
                    refine lv_iadd hx hb d_Y_link_173 ?_
                    refine q_put (L := LY) (kc := 0) (ki := 0) (C := "DeficitNetModel") (T := T_Y) (N := 40) (ci := 5) hx hb hts in_Y ty_Y tyok_Y nm_Y hown hK hW hS okY0 rfl rfl 0 (by decide) t_480 rfl rfl rfl (Nat.le_of_ble_eq_true rfl) rfl d_Y_link_174 (fun H locs z22 ez22 hW hS => ?_)
                    have h := stM_n h ez22
                    refine lv_aload_n hx hb d_Y_link_177 rfl (lv_at hl 0 rfl) ?_
                    obtain ⟨z23, ez23, h⟩ := bnd h
                    refine q_callVv (C := "DeficitNetModel") (As := []) (rest := []) hx hb hml hown hts hK hW hS (c_Y_measure l G b z22 z23 ez23) f_Y_measure t_472 ⟨rfl, rfl⟩ ⟨Nat.le_of_ble_eq_true rfl, Nat.le_of_ble_eq_true rfl⟩ (q_recv (L := LY) (kc := 0) (ki := 0) hK hW okY0 rfl rfl) rfl hl.1 rfl (Nat.le_of_ble_eq_true rfl) d_Y_link_178 (fun H locs hW hS => ?_)
                    refine lv_aload_n hx hb d_Y_link_181 rfl (lv_at hl 0 rfl) ?_
                    refine q_get (L := LY) (kc := 0) (ki := 0) (C := "DeficitNetModel") (T := T_Y) (N := 40) (ci := 5) (v := .int (z23.1 0 0 0)) hx hb hts in_Y hown hK hW okY0 rfl rfl 0 (by decide) t_480 rfl d_Y_link_182 ?_
                    refine lv_iconst (v := (1 : Int32)) hx hb d_Y_link_185 (by decide) ?_
                    refine lv_isub hx hb d_Y_link_186 ?_
                    exact q_iret hx hb hr hlk hK hW hS h d_Y_link_187
                · have h := ite_t h hc
                  refine lv_iconst (v := (-1 : Int32)) hx hb d_Y_link_69 (by decide) ?_
                  exact q_iret hx hb hr hlk hK hW hS h d_Y_link_70
          · have h := ite_t h hc
            refine lv_iconst (v := (-1 : Int32)) hx hb d_Y_link_35 (by decide) ?_
            exact q_iret hx hb hr hlk hK hW hS h d_Y_link_36
