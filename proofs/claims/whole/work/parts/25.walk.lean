set_option maxHeartbeats 4000000 in
set_option maxRecDepth 100000 in
theorem w_Y_leader_4 {p : Program} {l : Launch} {e : Env} {s : State} {m : MethodId} {args : Array Value} {below : List Frame} {meth : Method} {c : Code} {G : GG} {b : Nat} {r0 : Int32} {z0 : Mem} (C : Cx y_Y_leader b_Y_leader 4 (some .int) p s m args meth c G) {k59 : Int32 → Mem → Option (Int32 × Mem)} 
    (hk59 : ∀ (x2 : Int32) (z : Mem) (ls : Array Slot) (H : Heap) (locs : List Loc), Wd LY G b z H → va_S (rgL LY b) s.heap H locs → lv_has ls 4 [(2, .int x2)] → k59 x2 z = some (r0, z0) → W p l e rm_Y_leader s m args below meth c H locs 0 0 (MQ below (QI LY G b r0 z0) args s 0 0 (rgL LY b)) (F0 m 59 ls [])) :
    ∀ (n : Nat) (x1 : Int32) (x2 : Int32) (x3 : Int32) (z : Mem) (ls : Array Slot) (H : Heap) (locs : List Loc), Wd LY G b z H → va_S (rgL LY b) s.heap H locs → lv_has ls 4 [(0, .ref (ad LY b 0 0)), (1, .int x1), (2, .int x2), (3, .int x3)] → dn_Y_leader_4 k59 n x1 x2 x3 z = some (r0, z0) → W p l e rm_Y_leader s m args below meth c H locs 0 0 (MQ below (QI LY G b r0 z0) args s 0 0 (rgL LY b)) (F0 m 4 ls []) := by
  obtain ⟨hx, hb, hml, hr, hown, hts, hlk, hK⟩ := C
  intro n
  induction n with
  | zero =>
    intro x1 x2 x3 z ls H locs  hW hS hl h
    cases h
  | succ n ih =>
    intro x1 x2 x3 z ls H locs  hW hS hl h
    rw [dn_Y_leader_4] at h
    refine lv_iload_n hx hb d_Y_leader_4 rfl (lv_at hl 3 rfl) ?_
    refine lv_aload_n hx hb d_Y_leader_5 rfl (lv_at hl 0 rfl) ?_
    refine q_get (L := LY) (kc := 0) (ki := 0) (C := "DeficitNetModel") (T := T_Y) (N := 40) (ci := 5) (v := .int (z.1 0 0 9)) hx hb hts in_Y hown hK hW okY0 rfl rfl 9 (by decide) t_489 rfl d_Y_leader_6 ?_
    refine lv_icmp_ge (tgt := 59) hx hb d_Y_leader_9 (by decide) (fun hc => ?_) (fun hc => ?_)
    · have h := ite_t h hc
      exact hk59 x2 z ls H locs  hW hS (lv_sub hl [2] rfl) h
    · have h := ite_f h hc
      refine lv_aload_n hx hb d_Y_leader_12 rfl (lv_at hl 0 rfl) ?_
      refine lv_iload_n hx hb d_Y_leader_13 rfl (lv_at hl 1 rfl) ?_
      refine lv_iload_n hx hb d_Y_leader_14 rfl (lv_at hl 3 rfl) ?_
      obtain ⟨⟨v1, z1⟩, er1, h⟩ := bnd h
      refine q_callVi (C := "DeficitNetModel") (As := [.int x1, .int x3]) (rest := []) hx hb hml hown hts hK hW hS (c_Y_queued l G b x1 x3 z v1 z1 er1) f_Y_queued t_694 ⟨rfl, rfl⟩ ⟨Nat.le_of_ble_eq_true rfl, Nat.le_of_ble_eq_true rfl⟩ (q_recv (L := LY) (kc := 0) (ki := 0) hK hW okY0 rfl rfl) rfl hl.1 rfl (Nat.le_of_ble_eq_true rfl) d_Y_leader_15 (fun H locs hW hS => ?_)
      refine lv_if_le (tgt := 53) hx hb d_Y_leader_18 (by decide) (fun hc => ?_) (fun hc => ?_)
      · have h := ite_t h hc
        refine lv_iinc (k := 3) (v := (x3 + (1 : Int32))) hx hb d_Y_leader_53 hl rfl rfl (by decide) rfl (fun ls hl => ?_)
        have hl : lv_has ls 4 [(3, .int (x3 + (1 : Int32))), (0, .ref (ad LY b 0 0)), (1, .int x1), (2, .int x2)] := hl
        refine lv_goto (tgt := 4) hx hb d_Y_leader_56 (by decide) ?_
        exact ih x1 x2 (x3 + (1 : Int32)) z1 ls H locs  hW hS (lv_sub hl [1, 2, 3, 0] rfl) h
      · have h := ite_f h hc
        refine lv_iload_n hx hb d_Y_leader_21 rfl (lv_at hl 2 rfl) ?_
        refine lv_iconst (v := (-1 : Int32)) hx hb d_Y_leader_22 (by decide) ?_
        refine lv_icmp_eq (tgt := 51) hx hb d_Y_leader_23 (by decide) (fun hc => ?_) (fun hc => ?_)
        · have h := ite_t h hc
          refine lv_iload_n hx hb d_Y_leader_51 rfl (lv_at hl 3 rfl) ?_
          refine lv_istore_n hx hb d_Y_leader_52 rfl hl (by decide) rfl (fun ls hl => ?_)
          have hl : lv_has ls 4 [(2, .int x3), (0, .ref (ad LY b 0 0)), (1, .int x1), (3, .int x3)] := hl
          refine lv_iinc (k := 3) (v := (x3 + (1 : Int32))) hx hb d_Y_leader_53 hl rfl rfl (by decide) rfl (fun ls hl => ?_)
          have hl : lv_has ls 4 [(3, .int (x3 + (1 : Int32))), (2, .int x3), (0, .ref (ad LY b 0 0)), (1, .int x1)] := hl
          refine lv_goto (tgt := 4) hx hb d_Y_leader_56 (by decide) ?_
          exact ih x1 x3 (x3 + (1 : Int32)) z1 ls H locs  hW hS (lv_sub hl [2, 3, 1, 0] rfl) h
        · have h := ite_f h hc
          refine lv_aload_n hx hb d_Y_leader_26 rfl (lv_at hl 0 rfl) ?_
          refine q_get (L := LY) (kc := 0) (ki := 0) (C := "DeficitNetModel") (T := T_Y) (N := 40) (ci := 5) (v := .ref (ad LY b 31 0)) hx hb hts in_Y hown hK hW okY0 rfl rfl 32 (by decide) t_512 rfl d_Y_leader_27 ?_
          refine lv_bipush (v := (6 : Int32)) hx hb d_Y_leader_30 (by decide) ?_
          refine lv_iload_n hx hb d_Y_leader_32 rfl (lv_at hl 1 rfl) ?_
          refine lv_imul hx hb d_Y_leader_33 ?_
          refine lv_iload_n hx hb d_Y_leader_34 rfl (lv_at hl 3 rfl) ?_
          refine lv_iadd hx hb d_Y_leader_35 ?_
          obtain ⟨j2, ej2, h⟩ := bnd h
          refine q_iald (L := LY) (kc := 31) (ki := 0) hx hb hK hW okY31 rfl ej2 d_Y_leader_36 ?_
          refine lv_aload_n hx hb d_Y_leader_37 rfl (lv_at hl 0 rfl) ?_
          refine q_get (L := LY) (kc := 0) (ki := 0) (C := "DeficitNetModel") (T := T_Y) (N := 40) (ci := 5) (v := .ref (ad LY b 31 0)) hx hb hts in_Y hown hK hW okY0 rfl rfl 32 (by decide) t_512 rfl d_Y_leader_38 ?_
          refine lv_bipush (v := (6 : Int32)) hx hb d_Y_leader_41 (by decide) ?_
          refine lv_iload_n hx hb d_Y_leader_43 rfl (lv_at hl 1 rfl) ?_
          refine lv_imul hx hb d_Y_leader_44 ?_
          refine lv_iload_n hx hb d_Y_leader_45 rfl (lv_at hl 2 rfl) ?_
          refine lv_iadd hx hb d_Y_leader_46 ?_
          obtain ⟨j3, ej3, h⟩ := bnd h
          refine q_iald (L := LY) (kc := 31) (ki := 0) hx hb hK hW okY31 rfl ej3 d_Y_leader_47 ?_
          refine lv_icmp_ge (tgt := 53) hx hb d_Y_leader_48 (by decide) (fun hc => ?_) (fun hc => ?_)
          · have h := ite_t h hc
            refine lv_iinc (k := 3) (v := (x3 + (1 : Int32))) hx hb d_Y_leader_53 hl rfl rfl (by decide) rfl (fun ls hl => ?_)
            have hl : lv_has ls 4 [(3, .int (x3 + (1 : Int32))), (0, .ref (ad LY b 0 0)), (1, .int x1), (2, .int x2)] := hl
            refine lv_goto (tgt := 4) hx hb d_Y_leader_56 (by decide) ?_
            exact ih x1 x2 (x3 + (1 : Int32)) z1 ls H locs  hW hS (lv_sub hl [1, 2, 3, 0] rfl) h
          · have h := ite_f h hc
            refine lv_iload_n hx hb d_Y_leader_51 rfl (lv_at hl 3 rfl) ?_
            refine lv_istore_n hx hb d_Y_leader_52 rfl hl (by decide) rfl (fun ls hl => ?_)
            have hl : lv_has ls 4 [(2, .int x3), (0, .ref (ad LY b 0 0)), (1, .int x1), (3, .int x3)] := hl
            refine lv_iinc (k := 3) (v := (x3 + (1 : Int32))) hx hb d_Y_leader_53 hl rfl rfl (by decide) rfl (fun ls hl => ?_)
            have hl : lv_has ls 4 [(3, .int (x3 + (1 : Int32))), (2, .int x3), (0, .ref (ad LY b 0 0)), (1, .int x1)] := hl
            refine lv_goto (tgt := 4) hx hb d_Y_leader_56 (by decide) ?_
            exact ih x1 x3 (x3 + (1 : Int32)) z1 ls H locs  hW hS (lv_sub hl [2, 3, 1, 0] rfl) h
set_option maxHeartbeats 4000000 in
set_option maxRecDepth 100000 in
theorem c_Y_leader (l : Launch) (G : GG) (b : Nat) (x1 : Int32) (z : Mem) (r0 : Int32) (z0 : Mem) (h : dn_Y_leader x1 z = some (r0, z0)) : MtW l y_Y_leader b_Y_leader 4 (some .int) rm_Y_leader LY G b [.ref (ad LY b 0 0), .int x1] z (QI LY G b r0 z0) := by
  refine mtW_of (by decide) (Nat.le_of_ble_eq_true rfl) ?_
  intro p e s m args below meth c ls H locs C hW hS hl
  obtain ⟨hx, hb, hml, hr, hown, hts, hlk, hK⟩ := C
  have hl : lv_has ls 4 [(0, .ref (ad LY b 0 0)), (1, .int x1)] := hl
  unfold dn_Y_leader at h
  refine lv_iconst (v := (-1 : Int32)) hx hb d_Y_leader_0 (by decide) ?_
  refine lv_istore_n hx hb d_Y_leader_1 rfl hl (by decide) rfl (fun ls hl => ?_)
  have hl : lv_has ls 4 [(2, .int (-1 : Int32)), (0, .ref (ad LY b 0 0)), (1, .int x1)] := hl
  refine lv_iconst (v := (0 : Int32)) hx hb d_Y_leader_2 (by decide) ?_
  refine lv_istore_n hx hb d_Y_leader_3 rfl hl (by decide) rfl (fun ls hl => ?_)
  have hl : lv_has ls 4 [(3, .int (0 : Int32)), (2, .int (-1 : Int32)), (0, .ref (ad LY b 0 0)), (1, .int x1)] := hl
  refine w_Y_leader_4 ⟨hx, hb, hml, hr, hown, hts, hlk, hK⟩ (fun x2 z4 ls H locs  hW hS hl h => ?_) FU x1 (-1 : Int32) (0 : Int32) z ls H locs  hW hS (lv_sub hl [2, 3, 1, 0] rfl) h
  · refine lv_iload_n hx hb d_Y_leader_59 rfl (lv_at hl 0 rfl) ?_
    exact q_iret hx hb hr hlk hK hW hS h d_Y_leader_60
set_option maxHeartbeats 4000000 in
set_option maxRecDepth 100000 in
theorem w_Y_head_5 {p : Program} {l : Launch} {e : Env} {s : State} {m : MethodId} {args : Array Value} {below : List Frame} {meth : Method} {c : Code} {G : GG} {b : Nat} {r0 : Int32} {z0 : Mem} (C : Cx y_Y_head b_Y_head 5 (some .int) p s m args meth c G) {k75 : Int32 → Mem → Option (Int32 × Mem)} 
    (hk75 : ∀ (x3 : Int32) (z : Mem) (ls : Array Slot) (H : Heap) (locs : List Loc), Wd LY G b z H → va_S (rgL LY b) s.heap H locs → lv_has ls 5 [(3, .int x3)] → k75 x3 z = some (r0, z0) → W p l e rm_Y_head s m args below meth c H locs 0 0 (MQ below (QI LY G b r0 z0) args s 0 0 (rgL LY b)) (F0 m 75 ls [])) :
    ∀ (n : Nat) (x1 : Int32) (x2 : Int32) (x3 : Int32) (x4 : Int32) (z : Mem) (ls : Array Slot) (H : Heap) (locs : List Loc), Wd LY G b z H → va_S (rgL LY b) s.heap H locs → lv_has ls 5 [(0, .ref (ad LY b 0 0)), (1, .int x1), (2, .int x2), (3, .int x3), (4, .int x4)] → dn_Y_head_5 k75 n x1 x2 x3 x4 z = some (r0, z0) → W p l e rm_Y_head s m args below meth c H locs 0 0 (MQ below (QI LY G b r0 z0) args s 0 0 (rgL LY b)) (F0 m 5 ls []) := by
  obtain ⟨hx, hb, hml, hr, hown, hts, hlk, hK⟩ := C
  intro n
  induction n with
  | zero =>
    intro x1 x2 x3 x4 z ls H locs  hW hS hl h
    cases h
  | succ n ih =>
    intro x1 x2 x3 x4 z ls H locs  hW hS hl h
    rw [dn_Y_head_5] at h
    refine lv_iload hx hb d_Y_head_5 (lv_at hl 4 rfl) ?_
    refine lv_bipush (v := (64 : Int32)) hx hb d_Y_head_7 (by decide) ?_
    refine lv_icmp_ge (tgt := 75) hx hb d_Y_head_9 (by decide) (fun hc => ?_) (fun hc => ?_)
    · have h := ite_t h hc
      exact hk75 x3 z ls H locs  hW hS (lv_sub hl [3] rfl) h
    · have h := ite_f h hc
      refine lv_aload_n hx hb d_Y_head_12 rfl (lv_at hl 0 rfl) ?_
      refine q_get (L := LY) (kc := 0) (ki := 0) (C := "DeficitNetModel") (T := T_Y) (N := 40) (ci := 5) (v := .ref (ad LY b 24 0)) hx hb hts in_Y hown hK hW okY0 rfl rfl 25 (by decide) t_505 rfl d_Y_head_13 ?_
      refine lv_iload hx hb d_Y_head_16 (lv_at hl 4 rfl) ?_
      obtain ⟨j1, ej1, h⟩ := bnd h
      refine q_iald (L := LY) (kc := 24) (ki := 0) hx hb hK hW okY24 rfl ej1 d_Y_head_18 ?_
      refine lv_iconst (v := (1 : Int32)) hx hb d_Y_head_19 (by decide) ?_
      refine lv_icmp_ne (tgt := 69) hx hb d_Y_head_20 (by decide) (fun hc => ?_) (fun hc => ?_)
      · have h := ite_f h hc
        refine lv_iinc (k := 4) (v := (x4 + (1 : Int32))) hx hb d_Y_head_69 hl rfl rfl (by decide) rfl (fun ls hl => ?_)
        have hl : lv_has ls 5 [(4, .int (x4 + (1 : Int32))), (0, .ref (ad LY b 0 0)), (1, .int x1), (2, .int x2), (3, .int x3)] := hl
        refine lv_goto (tgt := 5) hx hb d_Y_head_72 (by decide) ?_
        exact ih x1 x2 x3 (x4 + (1 : Int32)) z ls H locs  hW hS (lv_sub hl [1, 2, 3, 4, 0] rfl) h
      · have h := ite_t h hc
        refine lv_aload_n hx hb d_Y_head_23 rfl (lv_at hl 0 rfl) ?_
        refine q_get (L := LY) (kc := 0) (ki := 0) (C := "DeficitNetModel") (T := T_Y) (N := 40) (ci := 5) (v := .ref (ad LY b 28 0)) hx hb hts in_Y hown hK hW okY0 rfl rfl 29 (by decide) t_509 rfl d_Y_head_24 ?_
        refine lv_iload hx hb d_Y_head_27 (lv_at hl 4 rfl) ?_
        obtain ⟨j2, ej2, h⟩ := bnd h
        refine q_iald (L := LY) (kc := 28) (ki := 0) hx hb hK hW okY28 rfl ej2 d_Y_head_29 ?_
        refine lv_iload_n hx hb d_Y_head_30 rfl (lv_at hl 1 rfl) ?_
        refine lv_icmp_ne (tgt := 69) hx hb d_Y_head_31 (by decide) (fun hc => ?_) (fun hc => ?_)
        · have h := ite_f h hc
          refine lv_iinc (k := 4) (v := (x4 + (1 : Int32))) hx hb d_Y_head_69 hl rfl rfl (by decide) rfl (fun ls hl => ?_)
          have hl : lv_has ls 5 [(4, .int (x4 + (1 : Int32))), (0, .ref (ad LY b 0 0)), (1, .int x1), (2, .int x2), (3, .int x3)] := hl
          refine lv_goto (tgt := 5) hx hb d_Y_head_72 (by decide) ?_
          exact ih x1 x2 x3 (x4 + (1 : Int32)) z ls H locs  hW hS (lv_sub hl [1, 2, 3, 4, 0] rfl) h
        · have h := ite_t h hc
          refine lv_aload_n hx hb d_Y_head_34 rfl (lv_at hl 0 rfl) ?_
          refine q_get (L := LY) (kc := 0) (ki := 0) (C := "DeficitNetModel") (T := T_Y) (N := 40) (ci := 5) (v := .ref (ad LY b 25 0)) hx hb hts in_Y hown hK hW okY0 rfl rfl 26 (by decide) t_506 rfl d_Y_head_35 ?_
          refine lv_iload hx hb d_Y_head_38 (lv_at hl 4 rfl) ?_
          obtain ⟨j3, ej3, h⟩ := bnd h
          refine q_iald (L := LY) (kc := 25) (ki := 0) hx hb hK hW okY25 rfl ej3 d_Y_head_40 ?_
          refine lv_iload_n hx hb d_Y_head_41 rfl (lv_at hl 2 rfl) ?_
          refine lv_icmp_ne (tgt := 69) hx hb d_Y_head_42 (by decide) (fun hc => ?_) (fun hc => ?_)
          · have h := ite_f h hc
            refine lv_iinc (k := 4) (v := (x4 + (1 : Int32))) hx hb d_Y_head_69 hl rfl rfl (by decide) rfl (fun ls hl => ?_)
            have hl : lv_has ls 5 [(4, .int (x4 + (1 : Int32))), (0, .ref (ad LY b 0 0)), (1, .int x1), (2, .int x2), (3, .int x3)] := hl
            refine lv_goto (tgt := 5) hx hb d_Y_head_72 (by decide) ?_
            exact ih x1 x2 x3 (x4 + (1 : Int32)) z ls H locs  hW hS (lv_sub hl [1, 2, 3, 4, 0] rfl) h
          · have h := ite_t h hc
            refine lv_iload_n hx hb d_Y_head_45 rfl (lv_at hl 3 rfl) ?_
            refine lv_iconst (v := (-1 : Int32)) hx hb d_Y_head_46 (by decide) ?_
            refine lv_icmp_eq (tgt := 66) hx hb d_Y_head_47 (by decide) (fun hc => ?_) (fun hc => ?_)
            · have h := ite_t h hc
              refine lv_iload hx hb d_Y_head_66 (lv_at hl 4 rfl) ?_
              refine lv_istore_n hx hb d_Y_head_68 rfl hl (by decide) rfl (fun ls hl => ?_)
              have hl : lv_has ls 5 [(3, .int x4), (0, .ref (ad LY b 0 0)), (1, .int x1), (2, .int x2), (4, .int x4)] := hl
              refine lv_iinc (k := 4) (v := (x4 + (1 : Int32))) hx hb d_Y_head_69 hl rfl rfl (by decide) rfl (fun ls hl => ?_)
              have hl : lv_has ls 5 [(4, .int (x4 + (1 : Int32))), (3, .int x4), (0, .ref (ad LY b 0 0)), (1, .int x1), (2, .int x2)] := hl
              refine lv_goto (tgt := 5) hx hb d_Y_head_72 (by decide) ?_
              exact ih x1 x2 x4 (x4 + (1 : Int32)) z ls H locs  hW hS (lv_sub hl [2, 3, 4, 1, 0] rfl) h
            · have h := ite_f h hc
              refine lv_aload_n hx hb d_Y_head_50 rfl (lv_at hl 0 rfl) ?_
              refine q_get (L := LY) (kc := 0) (ki := 0) (C := "DeficitNetModel") (T := T_Y) (N := 40) (ci := 5) (v := .ref (ad LY b 30 0)) hx hb hts in_Y hown hK hW okY0 rfl rfl 31 (by decide) t_511 rfl d_Y_head_51 ?_
              refine lv_iload hx hb d_Y_head_54 (lv_at hl 4 rfl) ?_
              obtain ⟨j4, ej4, h⟩ := bnd h
              refine q_iald (L := LY) (kc := 30) (ki := 0) hx hb hK hW okY30 rfl ej4 d_Y_head_56 ?_
              refine lv_aload_n hx hb d_Y_head_57 rfl (lv_at hl 0 rfl) ?_
              refine q_get (L := LY) (kc := 0) (ki := 0) (C := "DeficitNetModel") (T := T_Y) (N := 40) (ci := 5) (v := .ref (ad LY b 30 0)) hx hb hts in_Y hown hK hW okY0 rfl rfl 31 (by decide) t_511 rfl d_Y_head_58 ?_
              refine lv_iload_n hx hb d_Y_head_61 rfl (lv_at hl 3 rfl) ?_
              obtain ⟨j5, ej5, h⟩ := bnd h
              refine q_iald (L := LY) (kc := 30) (ki := 0) hx hb hK hW okY30 rfl ej5 d_Y_head_62 ?_
              refine lv_icmp_ge (tgt := 69) hx hb d_Y_head_63 (by decide) (fun hc => ?_) (fun hc => ?_)
              · have h := ite_t h hc
                refine lv_iinc (k := 4) (v := (x4 + (1 : Int32))) hx hb d_Y_head_69 hl rfl rfl (by decide) rfl (fun ls hl => ?_)
                have hl : lv_has ls 5 [(4, .int (x4 + (1 : Int32))), (0, .ref (ad LY b 0 0)), (1, .int x1), (2, .int x2), (3, .int x3)] := hl
                refine lv_goto (tgt := 5) hx hb d_Y_head_72 (by decide) ?_
                exact ih x1 x2 x3 (x4 + (1 : Int32)) z ls H locs  hW hS (lv_sub hl [1, 2, 3, 4, 0] rfl) h
              · have h := ite_f h hc
                refine lv_iload hx hb d_Y_head_66 (lv_at hl 4 rfl) ?_
                refine lv_istore_n hx hb d_Y_head_68 rfl hl (by decide) rfl (fun ls hl => ?_)
                have hl : lv_has ls 5 [(3, .int x4), (0, .ref (ad LY b 0 0)), (1, .int x1), (2, .int x2), (4, .int x4)] := hl
                refine lv_iinc (k := 4) (v := (x4 + (1 : Int32))) hx hb d_Y_head_69 hl rfl rfl (by decide) rfl (fun ls hl => ?_)
                have hl : lv_has ls 5 [(4, .int (x4 + (1 : Int32))), (3, .int x4), (0, .ref (ad LY b 0 0)), (1, .int x1), (2, .int x2)] := hl
                refine lv_goto (tgt := 5) hx hb d_Y_head_72 (by decide) ?_
                exact ih x1 x2 x4 (x4 + (1 : Int32)) z ls H locs  hW hS (lv_sub hl [2, 3, 4, 1, 0] rfl) h
set_option maxHeartbeats 4000000 in
set_option maxRecDepth 100000 in
theorem c_Y_head (l : Launch) (G : GG) (b : Nat) (x1 : Int32) (x2 : Int32) (z : Mem) (r0 : Int32) (z0 : Mem) (h : dn_Y_head x1 x2 z = some (r0, z0)) : MtW l y_Y_head b_Y_head 5 (some .int) rm_Y_head LY G b [.ref (ad LY b 0 0), .int x1, .int x2] z (QI LY G b r0 z0) := by
  refine mtW_of (by decide) (Nat.le_of_ble_eq_true rfl) ?_
  intro p e s m args below meth c ls H locs C hW hS hl
  obtain ⟨hx, hb, hml, hr, hown, hts, hlk, hK⟩ := C
  have hl : lv_has ls 5 [(0, .ref (ad LY b 0 0)), (1, .int x1), (2, .int x2)] := hl
  unfold dn_Y_head at h
  refine lv_iconst (v := (-1 : Int32)) hx hb d_Y_head_0 (by decide) ?_
  refine lv_istore_n hx hb d_Y_head_1 rfl hl (by decide) rfl (fun ls hl => ?_)
  have hl : lv_has ls 5 [(3, .int (-1 : Int32)), (0, .ref (ad LY b 0 0)), (1, .int x1), (2, .int x2)] := hl
  refine lv_iconst (v := (0 : Int32)) hx hb d_Y_head_2 (by decide) ?_
  refine lv_istore hx hb d_Y_head_3 hl (by decide) rfl (fun ls hl => ?_)
  have hl : lv_has ls 5 [(4, .int (0 : Int32)), (3, .int (-1 : Int32)), (0, .ref (ad LY b 0 0)), (1, .int x1), (2, .int x2)] := hl
  refine w_Y_head_5 ⟨hx, hb, hml, hr, hown, hts, hlk, hK⟩ (fun x3 z6 ls H locs  hW hS hl h => ?_) FU x1 x2 (-1 : Int32) (0 : Int32) z ls H locs  hW hS (lv_sub hl [2, 3, 4, 1, 0] rfl) h
  · refine lv_iload_n hx hb d_Y_head_75 rfl (lv_at hl 0 rfl) ?_
    exact q_iret hx hb hr hlk hK hW hS h d_Y_head_76
set_option maxHeartbeats 4000000 in
set_option maxRecDepth 100000 in
theorem w_Y_choose_2 {p : Program} {l : Launch} {e : Env} {s : State} {m : MethodId} {args : Array Value} {below : List Frame} {meth : Method} {c : Code} {G : GG} {b : Nat} {z0 : Mem} (C : Cx y_Y_choose b_Y_choose 6 none p s m args meth c G) {k84 : Int32 → Int32 → Int32 → Mem → Option Mem} {k186 : Mem → Option Mem} 
    (hk84 : ∀ (x1 : Int32) (x4 : Int32) (x5 : Int32) (z : Mem) (ls : Array Slot) (H : Heap) (locs : List Loc), Wd LY G b z H → va_S (rgL LY b) s.heap H locs → lv_has ls 6 [(0, .ref (ad LY b 0 0)), (1, .int x1), (4, .int x4), (5, .int x5)] → k84 x1 x4 x5 z = some z0 → W p l e rm_Y_choose s m args below meth c H locs 0 0 (MQ below (QV LY G b z0) args s 0 0 (rgL LY b)) (F0 m 84 ls []))
    (hk186 : ∀  (z : Mem) (ls : Array Slot) (H : Heap) (locs : List Loc), Wd LY G b z H → va_S (rgL LY b) s.heap H locs → lv_has ls 6 [] → k186  z = some z0 → W p l e rm_Y_choose s m args below meth c H locs 0 0 (MQ below (QV LY G b z0) args s 0 0 (rgL LY b)) (F0 m 186 ls [])) :
    ∀ (n : Nat) (x1 : Int32) (x2 : Int32) (z : Mem) (ls : Array Slot) (H : Heap) (locs : List Loc), Wd LY G b z H → va_S (rgL LY b) s.heap H locs → lv_has ls 6 [(0, .ref (ad LY b 0 0)), (1, .int x1), (2, .int x2)] → dn_Y_choose_2 k84 k186 n x1 x2 z = some z0 → W p l e rm_Y_choose s m args below meth c H locs 0 0 (MQ below (QV LY G b z0) args s 0 0 (rgL LY b)) (F0 m 2 ls []) := by
  obtain ⟨hx, hb, hml, hr, hown, hts, hlk, hK⟩ := C
  intro n
  induction n with
  | zero =>
    intro x1 x2 z ls H locs  hW hS hl h
    cases h
  | succ n ih =>
    intro x1 x2 z ls H locs  hW hS hl h
    rw [dn_Y_choose_2] at h
    refine lv_iload_n hx hb d_Y_choose_2 rfl (lv_at hl 2 rfl) ?_
    refine lv_bipush (v := (100 : Int32)) hx hb d_Y_choose_3 (by decide) ?_
    refine lv_icmp_ge (tgt := 186) hx hb d_Y_choose_5 (by decide) (fun hc => ?_) (fun hc => ?_)
    · have h := ite_t h hc
      exact hk186  z ls H locs  hW hS (lv_sub hl [] rfl) h
    · have h := ite_f h hc
      refine lv_aload_n hx hb d_Y_choose_8 rfl (lv_at hl 0 rfl) ?_
      refine lv_iload_n hx hb d_Y_choose_9 rfl (lv_at hl 1 rfl) ?_
      obtain ⟨⟨v1, z1⟩, er1, h⟩ := bnd h
      refine q_callVi (C := "DeficitNetModel") (As := [.int x1]) (rest := []) hx hb hml hown hts hK hW hS (c_Y_leader l G b x1 z v1 z1 er1) f_Y_leader t_710 ⟨rfl, rfl⟩ ⟨Nat.le_of_ble_eq_true rfl, Nat.le_of_ble_eq_true rfl⟩ (q_recv (L := LY) (kc := 0) (ki := 0) hK hW okY0 rfl rfl) rfl hl.1 rfl (Nat.le_of_ble_eq_true rfl) d_Y_choose_10 (fun H locs hW hS => ?_)
      refine lv_istore_n hx hb d_Y_choose_13 rfl hl (by decide) rfl (fun ls hl => ?_)
      have hl : lv_has ls 6 [(3, .int v1), (0, .ref (ad LY b 0 0)), (1, .int x1), (2, .int x2)] := hl
      refine lv_bipush (v := (6 : Int32)) hx hb d_Y_choose_14 (by decide) ?_
      refine lv_iload_n hx hb d_Y_choose_16 rfl (lv_at hl 2 rfl) ?_
      refine lv_imul hx hb d_Y_choose_17 ?_
      refine lv_iload_n hx hb d_Y_choose_18 rfl (lv_at hl 0 rfl) ?_
      refine lv_iadd hx hb d_Y_choose_19 ?_
      refine lv_topi (fun v2 ev2 => ?_)
      have h := stV_n h ev2
      refine lv_istore hx hb d_Y_choose_20 hl (by decide) rfl (fun ls hl => ?_)
      have hl : lv_has ls 6 [(4, .int v2), (3, .int v1), (0, .ref (ad LY b 0 0)), (1, .int x1), (2, .int x2)] := hl
      refine lv_aload_n hx hb d_Y_choose_22 rfl (lv_at hl 2 rfl) ?_
      refine q_get (L := LY) (kc := 0) (ki := 0) (C := "DeficitNetModel") (T := T_Y) (N := 40) (ci := 5) (v := .ref (ad LY b 32 0)) hx hb hts in_Y hown hK hW okY0 rfl rfl 33 (by decide) t_513 rfl d_Y_choose_23 ?_
      refine lv_iload hx hb d_Y_choose_26 (lv_at hl 0 rfl) ?_
      refine lv_dup2_11 hx hb d_Y_choose_28 rfl rfl ?_
      obtain ⟨j3, ej3, h⟩ := bnd h
      refine q_iald (L := LY) (kc := 32) (ki := 0) hx hb hK hW okY32 rfl ej3 d_Y_choose_29 ?_
      refine lv_aload_n hx hb d_Y_choose_30 rfl (lv_at hl 2 rfl) ?_
      refine q_get (L := LY) (kc := 0) (ki := 0) (C := "DeficitNetModel") (T := T_Y) (N := 40) (ci := 5) (v := .ref (ad LY b 33 0)) hx hb hts in_Y hown hK hW okY0 rfl rfl 34 (by decide) t_514 rfl d_Y_choose_31 ?_
      refine lv_iload hx hb d_Y_choose_34 (lv_at hl 0 rfl) ?_
      obtain ⟨j4, ej4, h⟩ := bnd h
      refine q_zald (L := LY) (kc := 33) (ki := 0) hx hb hK hW okY33 rfl ej4 d_Y_choose_36 ?_
      refine lv_if_eq (tgt := 44) hx hb d_Y_choose_37 (by decide) (fun hc => ?_) (fun hc => ?_)
      · have h := ite_t h hc
        refine lv_aload_n hx hb d_Y_choose_44 rfl (lv_at hl 2 rfl) ?_
        refine q_get (L := LY) (kc := 0) (ki := 0) (C := "DeficitNetModel") (T := T_Y) (N := 40) (ci := 5) (v := .ref (ad LY b 6 0)) hx hb hts in_Y hown hK hW okY0 rfl rfl 6 (by decide) t_486 rfl d_Y_choose_45 ?_
        refine lv_iload_n hx hb d_Y_choose_48 rfl (lv_at hl 3 rfl) ?_
        obtain ⟨j5, ej5, h⟩ := bnd h
        refine q_iald (L := LY) (kc := 6) (ki := 0) hx hb hK hW okY6 rfl ej5 d_Y_choose_49 ?_
        refine lv_iadd hx hb d_Y_choose_50 ?_
        obtain ⟨j6, ej6, h⟩ := bnd h
        refine q_iast (L := LY) (kc := 32) (ki := 0) hx hb hK hW hS okY32 (fun _ => rfl) ej6 d_Y_choose_51 (fun H locs z7 ez7 hW hS => ?_)
        have h := stM_n h ez7
        refine lv_aload_n hx hb d_Y_choose_52 rfl (lv_at hl 2 rfl) ?_
        refine q_get (L := LY) (kc := 0) (ki := 0) (C := "DeficitNetModel") (T := T_Y) (N := 40) (ci := 5) (v := .ref (ad LY b 33 0)) hx hb hts in_Y hown hK hW okY0 rfl rfl 34 (by decide) t_514 rfl d_Y_choose_53 ?_
        refine lv_iload hx hb d_Y_choose_56 (lv_at hl 0 rfl) ?_
        refine lv_iconst (v := (1 : Int32)) hx hb d_Y_choose_58 (by decide) ?_
        obtain ⟨_, u8, h⟩ := bnd h
        obtain ⟨j9, ej9, h⟩ := bnd h
        refine q_zast (L := LY) (kc := 33) (ki := 0) hx hb hK hW hS okY33 (fun _ => rfl) (bz_some u8) ej9 d_Y_choose_59 (fun H locs z10 ez10 hW hS => ?_)
        have h := stM_n h ez10
        refine lv_aload_n hx hb d_Y_choose_60 rfl (lv_at hl 2 rfl) ?_
        refine lv_iload_n hx hb d_Y_choose_61 rfl (lv_at hl 3 rfl) ?_
        refine lv_iload_n hx hb d_Y_choose_62 rfl (lv_at hl 1 rfl) ?_
        obtain ⟨⟨v11, z11⟩, er11, h⟩ := bnd h
        refine q_callVi (C := "DeficitNetModel") (As := [.int x1, .int v1]) (rest := []) hx hb hml hown hts hK hW hS (c_Y_head l G b x1 v1 z10 v11 z11 er11) f_Y_head t_714 ⟨rfl, rfl⟩ ⟨Nat.le_of_ble_eq_true rfl, Nat.le_of_ble_eq_true rfl⟩ (q_recv (L := LY) (kc := 0) (ki := 0) hK hW okY0 rfl rfl) rfl hl.1 rfl (Nat.le_of_ble_eq_true rfl) d_Y_choose_63 (fun H locs hW hS => ?_)
        refine lv_istore hx hb d_Y_choose_66 hl (by decide) rfl (fun ls hl => ?_)
        have hl : lv_has ls 6 [(5, .int v11), (4, .int v2), (3, .int v1), (0, .ref (ad LY b 0 0)), (1, .int x1), (2, .int x2)] := hl
        refine lv_aload_n hx hb d_Y_choose_68 rfl (lv_at hl 3 rfl) ?_
        refine lv_iload hx hb d_Y_choose_69 (lv_at hl 0 rfl) ?_
        obtain ⟨⟨v12, z12⟩, er12, h⟩ := bnd h
        refine q_callVi (C := "DeficitNetModel") (As := [.int v11]) (rest := []) hx hb hml hown hts hK hW hS (c_Y_sizeOf l G b v11 z11 v12 z12 er12) f_Y_sizeOf t_718 ⟨rfl, rfl⟩ ⟨Nat.le_of_ble_eq_true rfl, Nat.le_of_ble_eq_true rfl⟩ (q_recv (L := LY) (kc := 0) (ki := 0) hK hW okY0 rfl rfl) rfl hl.1 rfl (Nat.le_of_ble_eq_true rfl) d_Y_choose_71 (fun H locs hW hS => ?_)
        refine lv_aload_n hx hb d_Y_choose_74 rfl (lv_at hl 3 rfl) ?_
        refine q_get (L := LY) (kc := 0) (ki := 0) (C := "DeficitNetModel") (T := T_Y) (N := 40) (ci := 5) (v := .ref (ad LY b 32 0)) hx hb hts in_Y hown hK hW okY0 rfl rfl 33 (by decide) t_513 rfl d_Y_choose_75 ?_
        refine lv_iload hx hb d_Y_choose_78 (lv_at hl 1 rfl) ?_
        obtain ⟨j13, ej13, h⟩ := bnd h
        refine q_iald (L := LY) (kc := 32) (ki := 0) hx hb hK hW okY32 rfl ej13 d_Y_choose_80 ?_
        refine lv_icmp_gt (tgt := 154) hx hb d_Y_choose_81 (by decide) (fun hc => ?_) (fun hc => ?_)
        · have h := ite_t h hc
          refine lv_aload_n hx hb d_Y_choose_154 rfl (lv_at hl 3 rfl) ?_
          refine q_get (L := LY) (kc := 0) (ki := 0) (C := "DeficitNetModel") (T := T_Y) (N := 40) (ci := 5) (v := .ref (ad LY b 31 0)) hx hb hts in_Y hown hK hW okY0 rfl rfl 32 (by decide) t_512 rfl d_Y_choose_155 ?_
          refine lv_iload hx hb d_Y_choose_158 (lv_at hl 1 rfl) ?_
          refine lv_aload_n hx hb d_Y_choose_160 rfl (lv_at hl 3 rfl) ?_
          refine lv_dup hx hb d_Y_choose_161 rfl ?_
          refine q_get (L := LY) (kc := 0) (ki := 0) (C := "DeficitNetModel") (T := T_Y) (N := 40) (ci := 5) (v := .int (z12.1 0 0 37)) hx hb hts in_Y hown hK hW okY0 rfl rfl 37 (by decide) t_517 rfl d_Y_choose_162 ?_
          refine lv_iconst (v := (1 : Int32)) hx hb d_Y_choose_165 (by decide) ?_
          refine lv_iadd hx hb d_Y_choose_166 ?_
          refine lv_dup_x1 hx hb d_Y_choose_167 rfl rfl ?_
          refine q_put (L := LY) (kc := 0) (ki := 0) (C := "DeficitNetModel") (T := T_Y) (N := 40) (ci := 5) hx hb hts in_Y ty_Y tyok_Y nm_Y hown hK hW hS okY0 rfl rfl 37 (by decide) t_517 rfl rfl rfl (Nat.le_of_ble_eq_true rfl) rfl d_Y_choose_168 (fun H locs z14 ez14 hW hS => ?_)
          have h := stM_n h ez14
          obtain ⟨j15, ej15, h⟩ := bnd h
          refine q_iast (L := LY) (kc := 31) (ki := 0) hx hb hK hW hS okY31 (fun _ => rfl) ej15 d_Y_choose_171 (fun H locs z16 ez16 hW hS => ?_)
          have h := stM_n h ez16
          refine lv_aload_n hx hb d_Y_choose_172 rfl (lv_at hl 3 rfl) ?_
          refine q_get (L := LY) (kc := 0) (ki := 0) (C := "DeficitNetModel") (T := T_Y) (N := 40) (ci := 5) (v := .ref (ad LY b 33 0)) hx hb hts in_Y hown hK hW okY0 rfl rfl 34 (by decide) t_514 rfl d_Y_choose_173 ?_
          refine lv_iload hx hb d_Y_choose_176 (lv_at hl 1 rfl) ?_
          refine lv_iconst (v := (0 : Int32)) hx hb d_Y_choose_178 (by decide) ?_
          obtain ⟨_, u17, h⟩ := bnd h
          obtain ⟨j18, ej18, h⟩ := bnd h
          refine q_zast (L := LY) (kc := 33) (ki := 0) hx hb hK hW hS okY33 (fun _ => rfl) (bz_some u17) ej18 d_Y_choose_179 (fun H locs z19 ez19 hW hS => ?_)
          have h := stM_n h ez19
          refine lv_iinc (k := 5) (v := (x2 + (1 : Int32))) hx hb d_Y_choose_180 hl rfl rfl (by decide) rfl (fun ls hl => ?_)
          have hl : lv_has ls 6 [(2, .int (x2 + (1 : Int32))), (5, .int v11), (4, .int v2), (3, .int v1), (0, .ref (ad LY b 0 0)), (1, .int x1)] := hl
          refine lv_goto (tgt := 2) hx hb d_Y_choose_183 (by decide) ?_
          exact ih x1 (x2 + (1 : Int32)) z19 ls H locs  hW hS (lv_sub hl [4, 5, 0] rfl) h
        · have h := ite_f h hc
          exact hk84 x1 v2 v11 z12 ls H locs  hW hS (lv_sub hl [3, 4, 1, 0] rfl) h
      · have h := ite_f h hc
        refine lv_iconst (v := (0 : Int32)) hx hb d_Y_choose_40 (by decide) ?_
        refine lv_goto (tgt := 50) hx hb d_Y_choose_41 (by decide) ?_
        refine lv_iadd hx hb d_Y_choose_50 ?_
        obtain ⟨j20, ej20, h⟩ := bnd h
        refine q_iast (L := LY) (kc := 32) (ki := 0) hx hb hK hW hS okY32 (fun _ => rfl) ej20 d_Y_choose_51 (fun H locs z21 ez21 hW hS => ?_)
        have h := stM_n h ez21
        refine lv_aload_n hx hb d_Y_choose_52 rfl (lv_at hl 2 rfl) ?_
        refine q_get (L := LY) (kc := 0) (ki := 0) (C := "DeficitNetModel") (T := T_Y) (N := 40) (ci := 5) (v := .ref (ad LY b 33 0)) hx hb hts in_Y hown hK hW okY0 rfl rfl 34 (by decide) t_514 rfl d_Y_choose_53 ?_
        refine lv_iload hx hb d_Y_choose_56 (lv_at hl 0 rfl) ?_
        refine lv_iconst (v := (1 : Int32)) hx hb d_Y_choose_58 (by decide) ?_
        obtain ⟨_, u22, h⟩ := bnd h
        obtain ⟨j23, ej23, h⟩ := bnd h
        refine q_zast (L := LY) (kc := 33) (ki := 0) hx hb hK hW hS okY33 (fun _ => rfl) (bz_some u22) ej23 d_Y_choose_59 (fun H locs z24 ez24 hW hS => ?_)
        have h := stM_n h ez24
        refine lv_aload_n hx hb d_Y_choose_60 rfl (lv_at hl 2 rfl) ?_
        refine lv_iload_n hx hb d_Y_choose_61 rfl (lv_at hl 3 rfl) ?_
        refine lv_iload_n hx hb d_Y_choose_62 rfl (lv_at hl 1 rfl) ?_
        obtain ⟨⟨v25, z25⟩, er25, h⟩ := bnd h
        refine q_callVi (C := "DeficitNetModel") (As := [.int x1, .int v1]) (rest := []) hx hb hml hown hts hK hW hS (c_Y_head l G b x1 v1 z24 v25 z25 er25) f_Y_head t_714 ⟨rfl, rfl⟩ ⟨Nat.le_of_ble_eq_true rfl, Nat.le_of_ble_eq_true rfl⟩ (q_recv (L := LY) (kc := 0) (ki := 0) hK hW okY0 rfl rfl) rfl hl.1 rfl (Nat.le_of_ble_eq_true rfl) d_Y_choose_63 (fun H locs hW hS => ?_)
        refine lv_istore hx hb d_Y_choose_66 hl (by decide) rfl (fun ls hl => ?_)
        have hl : lv_has ls 6 [(5, .int v25), (4, .int v2), (3, .int v1), (0, .ref (ad LY b 0 0)), (1, .int x1), (2, .int x2)] := hl
        refine lv_aload_n hx hb d_Y_choose_68 rfl (lv_at hl 3 rfl) ?_
        refine lv_iload hx hb d_Y_choose_69 (lv_at hl 0 rfl) ?_
        obtain ⟨⟨v26, z26⟩, er26, h⟩ := bnd h
        refine q_callVi (C := "DeficitNetModel") (As := [.int v25]) (rest := []) hx hb hml hown hts hK hW hS (c_Y_sizeOf l G b v25 z25 v26 z26 er26) f_Y_sizeOf t_718 ⟨rfl, rfl⟩ ⟨Nat.le_of_ble_eq_true rfl, Nat.le_of_ble_eq_true rfl⟩ (q_recv (L := LY) (kc := 0) (ki := 0) hK hW okY0 rfl rfl) rfl hl.1 rfl (Nat.le_of_ble_eq_true rfl) d_Y_choose_71 (fun H locs hW hS => ?_)
        refine lv_aload_n hx hb d_Y_choose_74 rfl (lv_at hl 3 rfl) ?_
        refine q_get (L := LY) (kc := 0) (ki := 0) (C := "DeficitNetModel") (T := T_Y) (N := 40) (ci := 5) (v := .ref (ad LY b 32 0)) hx hb hts in_Y hown hK hW okY0 rfl rfl 33 (by decide) t_513 rfl d_Y_choose_75 ?_
        refine lv_iload hx hb d_Y_choose_78 (lv_at hl 1 rfl) ?_
        obtain ⟨j27, ej27, h⟩ := bnd h
        refine q_iald (L := LY) (kc := 32) (ki := 0) hx hb hK hW okY32 rfl ej27 d_Y_choose_80 ?_
        refine lv_icmp_gt (tgt := 154) hx hb d_Y_choose_81 (by decide) (fun hc => ?_) (fun hc => ?_)
        · have h := ite_t h hc
          refine lv_aload_n hx hb d_Y_choose_154 rfl (lv_at hl 3 rfl) ?_
          refine q_get (L := LY) (kc := 0) (ki := 0) (C := "DeficitNetModel") (T := T_Y) (N := 40) (ci := 5) (v := .ref (ad LY b 31 0)) hx hb hts in_Y hown hK hW okY0 rfl rfl 32 (by decide) t_512 rfl d_Y_choose_155 ?_
          refine lv_iload hx hb d_Y_choose_158 (lv_at hl 1 rfl) ?_
          refine lv_aload_n hx hb d_Y_choose_160 rfl (lv_at hl 3 rfl) ?_
          refine lv_dup hx hb d_Y_choose_161 rfl ?_
          refine q_get (L := LY) (kc := 0) (ki := 0) (C := "DeficitNetModel") (T := T_Y) (N := 40) (ci := 5) (v := .int (z26.1 0 0 37)) hx hb hts in_Y hown hK hW okY0 rfl rfl 37 (by decide) t_517 rfl d_Y_choose_162 ?_
          refine lv_iconst (v := (1 : Int32)) hx hb d_Y_choose_165 (by decide) ?_
          refine lv_iadd hx hb d_Y_choose_166 ?_
          refine lv_dup_x1 hx hb d_Y_choose_167 rfl rfl ?_
          refine q_put (L := LY) (kc := 0) (ki := 0) (C := "DeficitNetModel") (T := T_Y) (N := 40) (ci := 5) hx hb hts in_Y ty_Y tyok_Y nm_Y hown hK hW hS okY0 rfl rfl 37 (by decide) t_517 rfl rfl rfl (Nat.le_of_ble_eq_true rfl) rfl d_Y_choose_168 (fun H locs z28 ez28 hW hS => ?_)
          have h := stM_n h ez28
          obtain ⟨j29, ej29, h⟩ := bnd h
          refine q_iast (L := LY) (kc := 31) (ki := 0) hx hb hK hW hS okY31 (fun _ => rfl) ej29 d_Y_choose_171 (fun H locs z30 ez30 hW hS => ?_)
          have h := stM_n h ez30
          refine lv_aload_n hx hb d_Y_choose_172 rfl (lv_at hl 3 rfl) ?_
          refine q_get (L := LY) (kc := 0) (ki := 0) (C := "DeficitNetModel") (T := T_Y) (N := 40) (ci := 5) (v := .ref (ad LY b 33 0)) hx hb hts in_Y hown hK hW okY0 rfl rfl 34 (by decide) t_514 rfl d_Y_choose_173 ?_
          refine lv_iload hx hb d_Y_choose_176 (lv_at hl 1 rfl) ?_
          refine lv_iconst (v := (0 : Int32)) hx hb d_Y_choose_178 (by decide) ?_
          obtain ⟨_, u31, h⟩ := bnd h
          obtain ⟨j32, ej32, h⟩ := bnd h
          refine q_zast (L := LY) (kc := 33) (ki := 0) hx hb hK hW hS okY33 (fun _ => rfl) (bz_some u31) ej32 d_Y_choose_179 (fun H locs z33 ez33 hW hS => ?_)
          have h := stM_n h ez33
          refine lv_iinc (k := 5) (v := (x2 + (1 : Int32))) hx hb d_Y_choose_180 hl rfl rfl (by decide) rfl (fun ls hl => ?_)
          have hl : lv_has ls 6 [(2, .int (x2 + (1 : Int32))), (5, .int v25), (4, .int v2), (3, .int v1), (0, .ref (ad LY b 0 0)), (1, .int x1)] := hl
          refine lv_goto (tgt := 2) hx hb d_Y_choose_183 (by decide) ?_
          exact ih x1 (x2 + (1 : Int32)) z33 ls H locs  hW hS (lv_sub hl [4, 5, 0] rfl) h
        · have h := ite_f h hc
          exact hk84 x1 v2 v25 z26 ls H locs  hW hS (lv_sub hl [3, 4, 1, 0] rfl) h
set_option maxHeartbeats 4000000 in
set_option maxRecDepth 100000 in
theorem c_Y_choose (l : Launch) (G : GG) (b : Nat) (x1 : Int32) (z : Mem) (z0 : Mem) (h : dn_Y_choose x1 z = some z0) : MtW l y_Y_choose b_Y_choose 6 none rm_Y_choose LY G b [.ref (ad LY b 0 0), .int x1] z (QV LY G b z0) := by
  refine mtW_of (by decide) (Nat.le_of_ble_eq_true rfl) ?_
  intro p e s m args below meth c ls H locs C hW hS hl
  obtain ⟨hx, hb, hml, hr, hown, hts, hlk, hK⟩ := C
  have hl : lv_has ls 6 [(0, .ref (ad LY b 0 0)), (1, .int x1)] := hl
  unfold dn_Y_choose at h
  refine lv_iconst (v := (0 : Int32)) hx hb d_Y_choose_0 (by decide) ?_
  refine lv_istore_n hx hb d_Y_choose_1 rfl hl (by decide) rfl (fun ls hl => ?_)
  have hl : lv_has ls 6 [(2, .int (0 : Int32)), (0, .ref (ad LY b 0 0)), (1, .int x1)] := hl
  refine w_Y_choose_2 ⟨hx, hb, hml, hr, hown, hts, hlk, hK⟩ (fun x1 x4 x5 z34 ls H locs  hW hS hl h => ?_) (fun z48 ls H locs  hW hS hl h => ?_) FU x1 (0 : Int32) z ls H locs  hW hS (lv_sub hl [1, 2, 0] rfl) h
  · refine lv_aload_n hx hb d_Y_choose_84 rfl (lv_at hl 0 rfl) ?_
    refine q_get (L := LY) (kc := 0) (ki := 0) (C := "DeficitNetModel") (T := T_Y) (N := 40) (ci := 5) (v := .ref (ad LY b 32 0)) hx hb hts in_Y hown hK hW okY0 rfl rfl 33 (by decide) t_513 rfl d_Y_choose_85 ?_
    refine lv_iload hx hb d_Y_choose_88 (lv_at hl 2 rfl) ?_
    refine lv_dup2_11 hx hb d_Y_choose_90 rfl rfl ?_
    obtain ⟨j35, ej35, h⟩ := bnd h
    refine q_iald (L := LY) (kc := 32) (ki := 0) hx hb hK hW okY32 rfl ej35 d_Y_choose_91 ?_
    refine lv_aload_n hx hb d_Y_choose_92 rfl (lv_at hl 0 rfl) ?_
    refine lv_iload hx hb d_Y_choose_93 (lv_at hl 3 rfl) ?_
    obtain ⟨⟨v36, z36⟩, er36, h⟩ := bnd h
    refine q_callVi (C := "DeficitNetModel") (As := [.int x5]) (rest := [.int (z34.1 32 0 j35), .int x4, .ref (ad LY b 32 0)]) hx hb hml hown hts hK hW hS (c_Y_sizeOf l G b x5 z34 v36 z36 er36) f_Y_sizeOf t_718 ⟨rfl, rfl⟩ ⟨Nat.le_of_ble_eq_true rfl, Nat.le_of_ble_eq_true rfl⟩ (q_recv (L := LY) (kc := 0) (ki := 0) hK hW okY0 rfl rfl) rfl hl.1 rfl (Nat.le_of_ble_eq_true rfl) d_Y_choose_95 (fun H locs hW hS => ?_)
    refine lv_isub hx hb d_Y_choose_98 ?_
    obtain ⟨j37, ej37, h⟩ := bnd h
    refine q_iast (L := LY) (kc := 32) (ki := 0) hx hb hK hW hS okY32 (fun _ => rfl) ej37 d_Y_choose_99 (fun H locs z38 ez38 hW hS => ?_)
    have h := stM_n h ez38
    refine lv_aload_n hx hb d_Y_choose_100 rfl (lv_at hl 0 rfl) ?_
    refine q_get (L := LY) (kc := 0) (ki := 0) (C := "DeficitNetModel") (T := T_Y) (N := 40) (ci := 5) (v := .ref (ad LY b 24 0)) hx hb hts in_Y hown hK hW okY0 rfl rfl 25 (by decide) t_505 rfl d_Y_choose_101 ?_
    refine lv_iload hx hb d_Y_choose_104 (lv_at hl 3 rfl) ?_
    refine lv_iconst (v := (2 : Int32)) hx hb d_Y_choose_106 (by decide) ?_
    obtain ⟨j39, ej39, h⟩ := bnd h
    refine q_iast (L := LY) (kc := 24) (ki := 0) hx hb hK hW hS okY24 (fun _ => rfl) ej39 d_Y_choose_107 (fun H locs z40 ez40 hW hS => ?_)
    have h := stM_n h ez40
    refine lv_aload_n hx hb d_Y_choose_108 rfl (lv_at hl 0 rfl) ?_
    refine q_get (L := LY) (kc := 0) (ki := 0) (C := "DeficitNetModel") (T := T_Y) (N := 40) (ci := 5) (v := .ref (ad LY b 29 0)) hx hb hts in_Y hown hK hW okY0 rfl rfl 30 (by decide) t_510 rfl d_Y_choose_109 ?_
    refine lv_iload hx hb d_Y_choose_112 (lv_at hl 3 rfl) ?_
    refine lv_aload_n hx hb d_Y_choose_114 rfl (lv_at hl 0 rfl) ?_
    refine q_get (L := LY) (kc := 0) (ki := 0) (C := "DeficitNetModel") (T := T_Y) (N := 40) (ci := 5) (v := .int (z40.1 0 0 36)) hx hb hts in_Y hown hK hW okY0 rfl rfl 36 (by decide) t_516 rfl d_Y_choose_115 ?_
    refine lv_aload_n hx hb d_Y_choose_118 rfl (lv_at hl 0 rfl) ?_
    refine lv_iload hx hb d_Y_choose_119 (lv_at hl 3 rfl) ?_
    obtain ⟨⟨v41, z41⟩, er41, h⟩ := bnd h
    refine q_callVi (C := "DeficitNetModel") (As := [.int x5]) (rest := [.int (z40.1 0 0 36), .int x5, .ref (ad LY b 29 0)]) hx hb hml hown hts hK hW hS (c_Y_sizeOf l G b x5 z40 v41 z41 er41) f_Y_sizeOf t_718 ⟨rfl, rfl⟩ ⟨Nat.le_of_ble_eq_true rfl, Nat.le_of_ble_eq_true rfl⟩ (q_recv (L := LY) (kc := 0) (ki := 0) hK hW okY0 rfl rfl) rfl hl.1 rfl (Nat.le_of_ble_eq_true rfl) d_Y_choose_121 (fun H locs hW hS => ?_)
    refine lv_aload_n hx hb d_Y_choose_124 rfl (lv_at hl 0 rfl) ?_
    refine q_get (L := LY) (kc := 0) (ki := 0) (C := "DeficitNetModel") (T := T_Y) (N := 40) (ci := 5) (v := .ref (ad LY b 4 0)) hx hb hts in_Y hown hK hW okY0 rfl rfl 4 (by decide) t_484 rfl d_Y_choose_125 ?_
    refine lv_iload_n hx hb d_Y_choose_128 rfl (lv_at hl 1 rfl) ?_
    refine lv_iconst (v := (2 : Int32)) hx hb d_Y_choose_129 (by decide) ?_
    refine lv_idiv hx hb d_Y_choose_130 (by decide) ?_
    obtain ⟨j42, ej42, h⟩ := bnd h
    refine q_iald (L := LY) (kc := 4) (ki := 0) hx hb hK hW okY4 rfl ej42 d_Y_choose_131 ?_
    refine lv_imul hx hb d_Y_choose_132 ?_
    refine lv_iadd hx hb d_Y_choose_133 ?_
    obtain ⟨j43, ej43, h⟩ := bnd h
    refine q_iast (L := LY) (kc := 29) (ki := 0) hx hb hK hW hS okY29 (fun _ => rfl) ej43 d_Y_choose_134 (fun H locs z44 ez44 hW hS => ?_)
    have h := stM_n h ez44
    refine lv_aload_n hx hb d_Y_choose_135 rfl (lv_at hl 0 rfl) ?_
    refine q_get (L := LY) (kc := 0) (ki := 0) (C := "DeficitNetModel") (T := T_Y) (N := 40) (ci := 5) (v := .ref (ad LY b 30 0)) hx hb hts in_Y hown hK hW okY0 rfl rfl 31 (by decide) t_511 rfl d_Y_choose_136 ?_
    refine lv_iload hx hb d_Y_choose_139 (lv_at hl 3 rfl) ?_
    refine lv_aload_n hx hb d_Y_choose_141 rfl (lv_at hl 0 rfl) ?_
    refine lv_dup hx hb d_Y_choose_142 rfl ?_
    refine q_get (L := LY) (kc := 0) (ki := 0) (C := "DeficitNetModel") (T := T_Y) (N := 40) (ci := 5) (v := .int (z44.1 0 0 37)) hx hb hts in_Y hown hK hW okY0 rfl rfl 37 (by decide) t_517 rfl d_Y_choose_143 ?_
    refine lv_iconst (v := (1 : Int32)) hx hb d_Y_choose_146 (by decide) ?_
    refine lv_iadd hx hb d_Y_choose_147 ?_
    refine lv_dup_x1 hx hb d_Y_choose_148 rfl rfl ?_
    refine q_put (L := LY) (kc := 0) (ki := 0) (C := "DeficitNetModel") (T := T_Y) (N := 40) (ci := 5) hx hb hts in_Y ty_Y tyok_Y nm_Y hown hK hW hS okY0 rfl rfl 37 (by decide) t_517 rfl rfl rfl (Nat.le_of_ble_eq_true rfl) rfl d_Y_choose_149 (fun H locs z45 ez45 hW hS => ?_)
    have h := stM_n h ez45
    obtain ⟨j46, ej46, h⟩ := bnd h
    refine q_iast (L := LY) (kc := 30) (ki := 0) hx hb hK hW hS okY30 (fun _ => rfl) ej46 d_Y_choose_152 (fun H locs z47 ez47 hW hS => ?_)
    have h := stM_n h ez47
    exact q_vret hx hb hr hlk hK hW hS h d_Y_choose_153
  · exact q_vret hx hb hr hlk hK hW hS h d_Y_choose_186
set_option maxHeartbeats 4000000 in
set_option maxRecDepth 100000 in
theorem c_Y_put (l : Launch) (G : GG) (b : Nat) (x1 : Int32) (x2 : Int32) (z : Mem) (z0 : Mem) (h : dn_Y_put x1 x2 z = some z0) : MtW l y_Y_put b_Y_put 5 none rm_Y_put LY G b [.ref (ad LY b 0 0), .int x1, .int x2] z (QV LY G b z0) := by
  refine mtW_of (by decide) (Nat.le_of_ble_eq_true rfl) ?_
  intro p e s m args below meth c ls H locs C hW hS hl
  obtain ⟨hx, hb, hml, hr, hown, hts, hlk, hK⟩ := C
  have hl : lv_has ls 5 [(0, .ref (ad LY b 0 0)), (1, .int x1), (2, .int x2)] := hl
  unfold dn_Y_put at h
  refine lv_aload_n hx hb d_Y_put_0 rfl (lv_at hl 0 rfl) ?_
  refine lv_iload_n hx hb d_Y_put_1 rfl (lv_at hl 2 rfl) ?_
  refine lv_aload_n hx hb d_Y_put_2 rfl (lv_at hl 0 rfl) ?_
  refine lv_iload_n hx hb d_Y_put_3 rfl (lv_at hl 1 rfl) ?_
  obtain ⟨⟨v1, z1⟩, er1, h⟩ := bnd h
  refine q_callVi (C := "DeficitNetModel") (As := [.int x1]) (rest := [.int x2, .ref (ad LY b 0 0)]) hx hb hml hown hts hK hW hS (c_Y_endOf l G b x1 z v1 z1 er1) f_Y_endOf t_689 ⟨rfl, rfl⟩ ⟨Nat.le_of_ble_eq_true rfl, Nat.le_of_ble_eq_true rfl⟩ (q_recv (L := LY) (kc := 0) (ki := 0) hK hW okY0 rfl rfl) rfl hl.1 rfl (Nat.le_of_ble_eq_true rfl) d_Y_put_4 (fun H locs hW hS => ?_)
  obtain ⟨⟨v2, z2⟩, er2, h⟩ := bnd h
  refine q_callVi (C := "DeficitNetModel") (As := [.int x2, .int v1]) (rest := []) hx hb hml hown hts hK hW hS (c_Y_way l G b x2 v1 z1 v2 z2 er2) f_Y_way t_693 ⟨rfl, rfl⟩ ⟨Nat.le_of_ble_eq_true rfl, Nat.le_of_ble_eq_true rfl⟩ (q_recv (L := LY) (kc := 0) (ki := 0) hK hW okY0 rfl rfl) rfl hl.1 rfl (Nat.le_of_ble_eq_true rfl) d_Y_put_7 (fun H locs hW hS => ?_)
  refine lv_istore_n hx hb d_Y_put_10 rfl hl (by decide) rfl (fun ls hl => ?_)
  have hl : lv_has ls 5 [(3, .int v2), (0, .ref (ad LY b 0 0)), (1, .int x1), (2, .int x2)] := hl
  refine lv_iload_n hx hb d_Y_put_11 rfl (lv_at hl 0 rfl) ?_
  refine lv_iconst (v := (-1 : Int32)) hx hb d_Y_put_12 (by decide) ?_
  refine lv_icmp_eq (tgt := 31) hx hb d_Y_put_13 (by decide) (fun hc => ?_) (fun hc => ?_)
  · have h := ite_t h hc
    refine lv_aload_n hx hb d_Y_put_31 rfl (lv_at hl 1 rfl) ?_
    refine lv_iload_n hx hb d_Y_put_32 rfl (lv_at hl 2 rfl) ?_
    obtain ⟨z3, ez3, h⟩ := bnd h
    refine q_callVv (C := "DeficitNetModel") (As := [.int x1]) (rest := []) hx hb hml hown hts hK hW hS (c_Y_lose l G b x1 z2 z3 ez3) f_Y_lose t_698 ⟨rfl, rfl⟩ ⟨Nat.le_of_ble_eq_true rfl, Nat.le_of_ble_eq_true rfl⟩ (q_recv (L := LY) (kc := 0) (ki := 0) hK hW okY0 rfl rfl) rfl hl.1 rfl (Nat.le_of_ble_eq_true rfl) d_Y_put_33 (fun H locs hW hS => ?_)
    exact q_vret hx hb hr hlk hK hW hS h d_Y_put_36
  · have h := ite_f h hc
    refine lv_aload_n hx hb d_Y_put_16 rfl (lv_at hl 1 rfl) ?_
    refine lv_iload_n hx hb d_Y_put_17 rfl (lv_at hl 0 rfl) ?_
    refine lv_iconst (v := (-1 : Int32)) hx hb d_Y_put_18 (by decide) ?_
    obtain ⟨⟨v4, z4⟩, er4, h⟩ := bnd h
    refine q_callVi (C := "DeficitNetModel") (As := [.int v2, .int (-1 : Int32)]) (rest := []) hx hb hml hown hts hK hW hS (c_Y_queued l G b v2 (-1 : Int32) z2 v4 z4 er4) f_Y_queued t_694 ⟨rfl, rfl⟩ ⟨Nat.le_of_ble_eq_true rfl, Nat.le_of_ble_eq_true rfl⟩ (q_recv (L := LY) (kc := 0) (ki := 0) hK hW okY0 rfl rfl) rfl hl.1 rfl (Nat.le_of_ble_eq_true rfl) d_Y_put_19 (fun H locs hW hS => ?_)
    refine lv_aload_n hx hb d_Y_put_22 rfl (lv_at hl 1 rfl) ?_
    refine q_get (L := LY) (kc := 0) (ki := 0) (C := "DeficitNetModel") (T := T_Y) (N := 40) (ci := 5) (v := .ref (ad LY b 7 0)) hx hb hts in_Y hown hK hW okY0 rfl rfl 7 (by decide) t_487 rfl d_Y_put_23 ?_
    refine lv_iload_n hx hb d_Y_put_26 rfl (lv_at hl 0 rfl) ?_
    obtain ⟨j5, ej5, h⟩ := bnd h
    refine q_iald (L := LY) (kc := 7) (ki := 0) hx hb hK hW okY7 rfl ej5 d_Y_put_27 ?_
    refine lv_icmp_lt (tgt := 37) hx hb d_Y_put_28 (by decide) (fun hc => ?_) (fun hc => ?_)
    · have h := ite_t h hc
      refine lv_bipush (v := (6 : Int32)) hx hb d_Y_put_37 (by decide) ?_
      refine lv_iload_n hx hb d_Y_put_39 rfl (lv_at hl 0 rfl) ?_
      refine lv_imul hx hb d_Y_put_40 ?_
      refine lv_aload_n hx hb d_Y_put_41 rfl (lv_at hl 1 rfl) ?_
      refine q_get (L := LY) (kc := 0) (ki := 0) (C := "DeficitNetModel") (T := T_Y) (N := 40) (ci := 5) (v := .ref (ad LY b 25 0)) hx hb hts in_Y hown hK hW okY0 rfl rfl 26 (by decide) t_506 rfl d_Y_put_42 ?_
      refine lv_iload_n hx hb d_Y_put_45 rfl (lv_at hl 2 rfl) ?_
      obtain ⟨j6, ej6, h⟩ := bnd h
      refine q_iald (L := LY) (kc := 25) (ki := 0) hx hb hK hW okY25 rfl ej6 d_Y_put_46 ?_
      refine lv_iadd hx hb d_Y_put_47 ?_
      refine lv_topi (fun v7 ev7 => ?_)
      have h := stV_n h ev7
      refine lv_istore hx hb d_Y_put_48 hl (by decide) rfl (fun ls hl => ?_)
      have hl : lv_has ls 5 [(4, .int v7), (3, .int v2), (0, .ref (ad LY b 0 0)), (1, .int x1), (2, .int x2)] := hl
      refine lv_aload_n hx hb d_Y_put_50 rfl (lv_at hl 2 rfl) ?_
      refine lv_iload_n hx hb d_Y_put_51 rfl (lv_at hl 1 rfl) ?_
      refine lv_aload_n hx hb d_Y_put_52 rfl (lv_at hl 2 rfl) ?_
      refine q_get (L := LY) (kc := 0) (ki := 0) (C := "DeficitNetModel") (T := T_Y) (N := 40) (ci := 5) (v := .ref (ad LY b 25 0)) hx hb hts in_Y hown hK hW okY0 rfl rfl 26 (by decide) t_506 rfl d_Y_put_53 ?_
      refine lv_iload_n hx hb d_Y_put_56 rfl (lv_at hl 3 rfl) ?_
      obtain ⟨j8, ej8, h⟩ := bnd h
      refine q_iald (L := LY) (kc := 25) (ki := 0) hx hb hK hW okY25 rfl ej8 d_Y_put_57 ?_
      obtain ⟨⟨v9, z9⟩, er9, h⟩ := bnd h
      refine q_callVi (C := "DeficitNetModel") (As := [.int v2, .int (z4.1 25 0 j8)]) (rest := []) hx hb hml hown hts hK hW hS (c_Y_queued l G b v2 (z4.1 25 0 j8) z4 v9 z9 er9) f_Y_queued t_694 ⟨rfl, rfl⟩ ⟨Nat.le_of_ble_eq_true rfl, Nat.le_of_ble_eq_true rfl⟩ (q_recv (L := LY) (kc := 0) (ki := 0) hK hW okY0 rfl rfl) rfl hl.1 rfl (Nat.le_of_ble_eq_true rfl) d_Y_put_58 (fun H locs hW hS => ?_)
      refine lv_if_ne (tgt := 98) hx hb d_Y_put_61 (by decide) (fun hc => ?_) (fun hc => ?_)
      · have h := ite_f h hc
        refine lv_aload_n hx hb d_Y_put_98 rfl (lv_at hl 2 rfl) ?_
        refine q_get (L := LY) (kc := 0) (ki := 0) (C := "DeficitNetModel") (T := T_Y) (N := 40) (ci := 5) (v := .ref (ad LY b 24 0)) hx hb hts in_Y hown hK hW okY0 rfl rfl 25 (by decide) t_505 rfl d_Y_put_99 ?_
        refine lv_iload_n hx hb d_Y_put_102 rfl (lv_at hl 3 rfl) ?_
        refine lv_iconst (v := (1 : Int32)) hx hb d_Y_put_103 (by decide) ?_
        obtain ⟨j10, ej10, h⟩ := bnd h
        refine q_iast (L := LY) (kc := 24) (ki := 0) hx hb hK hW hS okY24 (fun _ => rfl) ej10 d_Y_put_104 (fun H locs z11 ez11 hW hS => ?_)
        have h := stM_n h ez11
        refine lv_aload_n hx hb d_Y_put_105 rfl (lv_at hl 2 rfl) ?_
        refine q_get (L := LY) (kc := 0) (ki := 0) (C := "DeficitNetModel") (T := T_Y) (N := 40) (ci := 5) (v := .ref (ad LY b 28 0)) hx hb hts in_Y hown hK hW okY0 rfl rfl 29 (by decide) t_509 rfl d_Y_put_106 ?_
        refine lv_iload_n hx hb d_Y_put_109 rfl (lv_at hl 3 rfl) ?_
        refine lv_iload_n hx hb d_Y_put_110 rfl (lv_at hl 1 rfl) ?_
        obtain ⟨j12, ej12, h⟩ := bnd h
        refine q_iast (L := LY) (kc := 28) (ki := 0) hx hb hK hW hS okY28 (fun _ => rfl) ej12 d_Y_put_111 (fun H locs z13 ez13 hW hS => ?_)
        have h := stM_n h ez13
        refine lv_aload_n hx hb d_Y_put_112 rfl (lv_at hl 2 rfl) ?_
        refine q_get (L := LY) (kc := 0) (ki := 0) (C := "DeficitNetModel") (T := T_Y) (N := 40) (ci := 5) (v := .ref (ad LY b 30 0)) hx hb hts in_Y hown hK hW okY0 rfl rfl 31 (by decide) t_511 rfl d_Y_put_113 ?_
        refine lv_iload_n hx hb d_Y_put_116 rfl (lv_at hl 3 rfl) ?_
        refine lv_aload_n hx hb d_Y_put_117 rfl (lv_at hl 2 rfl) ?_
        refine lv_dup hx hb d_Y_put_118 rfl ?_
        refine q_get (L := LY) (kc := 0) (ki := 0) (C := "DeficitNetModel") (T := T_Y) (N := 40) (ci := 5) (v := .int (z13.1 0 0 37)) hx hb hts in_Y hown hK hW okY0 rfl rfl 37 (by decide) t_517 rfl d_Y_put_119 ?_
        refine lv_iconst (v := (1 : Int32)) hx hb d_Y_put_122 (by decide) ?_
        refine lv_iadd hx hb d_Y_put_123 ?_
        refine lv_dup_x1 hx hb d_Y_put_124 rfl rfl ?_
        refine q_put (L := LY) (kc := 0) (ki := 0) (C := "DeficitNetModel") (T := T_Y) (N := 40) (ci := 5) hx hb hts in_Y ty_Y tyok_Y nm_Y hown hK hW hS okY0 rfl rfl 37 (by decide) t_517 rfl rfl rfl (Nat.le_of_ble_eq_true rfl) rfl d_Y_put_125 (fun H locs z14 ez14 hW hS => ?_)
        have h := stM_n h ez14
        obtain ⟨j15, ej15, h⟩ := bnd h
        refine q_iast (L := LY) (kc := 30) (ki := 0) hx hb hK hW hS okY30 (fun _ => rfl) ej15 d_Y_put_128 (fun H locs z16 ez16 hW hS => ?_)
        have h := stM_n h ez16
        refine lv_aload_n hx hb d_Y_put_129 rfl (lv_at hl 2 rfl) ?_
        refine lv_iload_n hx hb d_Y_put_130 rfl (lv_at hl 1 rfl) ?_
        obtain ⟨⟨v17, z17⟩, er17, h⟩ := bnd h
        refine q_callVi (C := "DeficitNetModel") (As := [.int v2]) (rest := []) hx hb hml hown hts hK hW hS (c_Y_on l G b v2 z16 v17 z17 er17) f_Y_on t_702 ⟨rfl, rfl⟩ ⟨Nat.le_of_ble_eq_true rfl, Nat.le_of_ble_eq_true rfl⟩ (q_recv (L := LY) (kc := 0) (ki := 0) hK hW okY0 rfl rfl) rfl hl.1 rfl (Nat.le_of_ble_eq_true rfl) d_Y_put_131 (fun H locs hW hS => ?_)
        refine lv_iconst (v := (-1 : Int32)) hx hb d_Y_put_134 (by decide) ?_
        refine lv_icmp_ne (tgt := 143) hx hb d_Y_put_135 (by decide) (fun hc => ?_) (fun hc => ?_)
        · have h := ite_f h hc
          exact q_vret hx hb hr hlk hK hW hS h d_Y_put_143
        · have h := ite_t h hc
          refine lv_aload_n hx hb d_Y_put_138 rfl (lv_at hl 2 rfl) ?_
          refine lv_iload_n hx hb d_Y_put_139 rfl (lv_at hl 1 rfl) ?_
          obtain ⟨z18, ez18, h⟩ := bnd h
          refine q_callVv (C := "DeficitNetModel") (As := [.int v2]) (rest := []) hx hb hml hown hts hK hW hS (c_Y_choose l G b v2 z17 z18 ez18) f_Y_choose t_706 ⟨rfl, rfl⟩ ⟨Nat.le_of_ble_eq_true rfl, Nat.le_of_ble_eq_true rfl⟩ (q_recv (L := LY) (kc := 0) (ki := 0) hK hW okY0 rfl rfl) rfl hl.1 rfl (Nat.le_of_ble_eq_true rfl) d_Y_put_140 (fun H locs hW hS => ?_)
          exact q_vret hx hb hr hlk hK hW hS h d_Y_put_143
      · have h := ite_t h hc
        refine lv_aload_n hx hb d_Y_put_64 rfl (lv_at hl 2 rfl) ?_
        refine q_get (L := LY) (kc := 0) (ki := 0) (C := "DeficitNetModel") (T := T_Y) (N := 40) (ci := 5) (v := .ref (ad LY b 31 0)) hx hb hts in_Y hown hK hW okY0 rfl rfl 32 (by decide) t_512 rfl d_Y_put_65 ?_
        refine lv_iload hx hb d_Y_put_68 (lv_at hl 0 rfl) ?_
        refine lv_aload_n hx hb d_Y_put_70 rfl (lv_at hl 2 rfl) ?_
        refine lv_dup hx hb d_Y_put_71 rfl ?_
        refine q_get (L := LY) (kc := 0) (ki := 0) (C := "DeficitNetModel") (T := T_Y) (N := 40) (ci := 5) (v := .int (z9.1 0 0 37)) hx hb hts in_Y hown hK hW okY0 rfl rfl 37 (by decide) t_517 rfl d_Y_put_72 ?_
        refine lv_iconst (v := (1 : Int32)) hx hb d_Y_put_75 (by decide) ?_
        refine lv_iadd hx hb d_Y_put_76 ?_
        refine lv_dup_x1 hx hb d_Y_put_77 rfl rfl ?_
        refine q_put (L := LY) (kc := 0) (ki := 0) (C := "DeficitNetModel") (T := T_Y) (N := 40) (ci := 5) hx hb hts in_Y ty_Y tyok_Y nm_Y hown hK hW hS okY0 rfl rfl 37 (by decide) t_517 rfl rfl rfl (Nat.le_of_ble_eq_true rfl) rfl d_Y_put_78 (fun H locs z19 ez19 hW hS => ?_)
        have h := stM_n h ez19
        obtain ⟨j20, ej20, h⟩ := bnd h
        refine q_iast (L := LY) (kc := 31) (ki := 0) hx hb hK hW hS okY31 (fun _ => rfl) ej20 d_Y_put_81 (fun H locs z21 ez21 hW hS => ?_)
        have h := stM_n h ez21
        refine lv_aload_n hx hb d_Y_put_82 rfl (lv_at hl 2 rfl) ?_
        refine q_get (L := LY) (kc := 0) (ki := 0) (C := "DeficitNetModel") (T := T_Y) (N := 40) (ci := 5) (v := .ref (ad LY b 32 0)) hx hb hts in_Y hown hK hW okY0 rfl rfl 33 (by decide) t_513 rfl d_Y_put_83 ?_
        refine lv_iload hx hb d_Y_put_86 (lv_at hl 0 rfl) ?_
        refine lv_iconst (v := (0 : Int32)) hx hb d_Y_put_88 (by decide) ?_
        obtain ⟨j22, ej22, h⟩ := bnd h
        refine q_iast (L := LY) (kc := 32) (ki := 0) hx hb hK hW hS okY32 (fun _ => rfl) ej22 d_Y_put_89 (fun H locs z23 ez23 hW hS => ?_)
        have h := stM_n h ez23
        refine lv_aload_n hx hb d_Y_put_90 rfl (lv_at hl 2 rfl) ?_
        refine q_get (L := LY) (kc := 0) (ki := 0) (C := "DeficitNetModel") (T := T_Y) (N := 40) (ci := 5) (v := .ref (ad LY b 33 0)) hx hb hts in_Y hown hK hW okY0 rfl rfl 34 (by decide) t_514 rfl d_Y_put_91 ?_
        refine lv_iload hx hb d_Y_put_94 (lv_at hl 0 rfl) ?_
        refine lv_iconst (v := (0 : Int32)) hx hb d_Y_put_96 (by decide) ?_
        obtain ⟨_, u24, h⟩ := bnd h
        obtain ⟨j25, ej25, h⟩ := bnd h
        refine q_zast (L := LY) (kc := 33) (ki := 0) hx hb hK hW hS okY33 (fun _ => rfl) (bz_some u24) ej25 d_Y_put_97 (fun H locs z26 ez26 hW hS => ?_)
        have h := stM_n h ez26
        refine lv_aload_n hx hb d_Y_put_98 rfl (lv_at hl 2 rfl) ?_
        refine q_get (L := LY) (kc := 0) (ki := 0) (C := "DeficitNetModel") (T := T_Y) (N := 40) (ci := 5) (v := .ref (ad LY b 24 0)) hx hb hts in_Y hown hK hW okY0 rfl rfl 25 (by decide) t_505 rfl d_Y_put_99 ?_
        refine lv_iload_n hx hb d_Y_put_102 rfl (lv_at hl 3 rfl) ?_
        refine lv_iconst (v := (1 : Int32)) hx hb d_Y_put_103 (by decide) ?_
        obtain ⟨j27, ej27, h⟩ := bnd h
        refine q_iast (L := LY) (kc := 24) (ki := 0) hx hb hK hW hS okY24 (fun _ => rfl) ej27 d_Y_put_104 (fun H locs z28 ez28 hW hS => ?_)
        have h := stM_n h ez28
        refine lv_aload_n hx hb d_Y_put_105 rfl (lv_at hl 2 rfl) ?_
        refine q_get (L := LY) (kc := 0) (ki := 0) (C := "DeficitNetModel") (T := T_Y) (N := 40) (ci := 5) (v := .ref (ad LY b 28 0)) hx hb hts in_Y hown hK hW okY0 rfl rfl 29 (by decide) t_509 rfl d_Y_put_106 ?_
        refine lv_iload_n hx hb d_Y_put_109 rfl (lv_at hl 3 rfl) ?_
        refine lv_iload_n hx hb d_Y_put_110 rfl (lv_at hl 1 rfl) ?_
        obtain ⟨j29, ej29, h⟩ := bnd h
        refine q_iast (L := LY) (kc := 28) (ki := 0) hx hb hK hW hS okY28 (fun _ => rfl) ej29 d_Y_put_111 (fun H locs z30 ez30 hW hS => ?_)
        have h := stM_n h ez30
        refine lv_aload_n hx hb d_Y_put_112 rfl (lv_at hl 2 rfl) ?_
        refine q_get (L := LY) (kc := 0) (ki := 0) (C := "DeficitNetModel") (T := T_Y) (N := 40) (ci := 5) (v := .ref (ad LY b 30 0)) hx hb hts in_Y hown hK hW okY0 rfl rfl 31 (by decide) t_511 rfl d_Y_put_113 ?_
        refine lv_iload_n hx hb d_Y_put_116 rfl (lv_at hl 3 rfl) ?_
        refine lv_aload_n hx hb d_Y_put_117 rfl (lv_at hl 2 rfl) ?_
        refine lv_dup hx hb d_Y_put_118 rfl ?_
        refine q_get (L := LY) (kc := 0) (ki := 0) (C := "DeficitNetModel") (T := T_Y) (N := 40) (ci := 5) (v := .int (z30.1 0 0 37)) hx hb hts in_Y hown hK hW okY0 rfl rfl 37 (by decide) t_517 rfl d_Y_put_119 ?_
        refine lv_iconst (v := (1 : Int32)) hx hb d_Y_put_122 (by decide) ?_
        refine lv_iadd hx hb d_Y_put_123 ?_
        refine lv_dup_x1 hx hb d_Y_put_124 rfl rfl ?_
        refine q_put (L := LY) (kc := 0) (ki := 0) (C := "DeficitNetModel") (T := T_Y) (N := 40) (ci := 5) hx hb hts in_Y ty_Y tyok_Y nm_Y hown hK hW hS okY0 rfl rfl 37 (by decide) t_517 rfl rfl rfl (Nat.le_of_ble_eq_true rfl) rfl d_Y_put_125 (fun H locs z31 ez31 hW hS => ?_)
        have h := stM_n h ez31
        obtain ⟨j32, ej32, h⟩ := bnd h
        refine q_iast (L := LY) (kc := 30) (ki := 0) hx hb hK hW hS okY30 (fun _ => rfl) ej32 d_Y_put_128 (fun H locs z33 ez33 hW hS => ?_)
        have h := stM_n h ez33
        refine lv_aload_n hx hb d_Y_put_129 rfl (lv_at hl 2 rfl) ?_
        refine lv_iload_n hx hb d_Y_put_130 rfl (lv_at hl 1 rfl) ?_
        obtain ⟨⟨v34, z34⟩, er34, h⟩ := bnd h
        refine q_callVi (C := "DeficitNetModel") (As := [.int v2]) (rest := []) hx hb hml hown hts hK hW hS (c_Y_on l G b v2 z33 v34 z34 er34) f_Y_on t_702 ⟨rfl, rfl⟩ ⟨Nat.le_of_ble_eq_true rfl, Nat.le_of_ble_eq_true rfl⟩ (q_recv (L := LY) (kc := 0) (ki := 0) hK hW okY0 rfl rfl) rfl hl.1 rfl (Nat.le_of_ble_eq_true rfl) d_Y_put_131 (fun H locs hW hS => ?_)
        refine lv_iconst (v := (-1 : Int32)) hx hb d_Y_put_134 (by decide) ?_
        refine lv_icmp_ne (tgt := 143) hx hb d_Y_put_135 (by decide) (fun hc => ?_) (fun hc => ?_)
        · have h := ite_f h hc
          exact q_vret hx hb hr hlk hK hW hS h d_Y_put_143
        · have h := ite_t h hc
          refine lv_aload_n hx hb d_Y_put_138 rfl (lv_at hl 2 rfl) ?_
          refine lv_iload_n hx hb d_Y_put_139 rfl (lv_at hl 1 rfl) ?_
          obtain ⟨z35, ez35, h⟩ := bnd h
          refine q_callVv (C := "DeficitNetModel") (As := [.int v2]) (rest := []) hx hb hml hown hts hK hW hS (c_Y_choose l G b v2 z34 z35 ez35) f_Y_choose t_706 ⟨rfl, rfl⟩ ⟨Nat.le_of_ble_eq_true rfl, Nat.le_of_ble_eq_true rfl⟩ (q_recv (L := LY) (kc := 0) (ki := 0) hK hW okY0 rfl rfl) rfl hl.1 rfl (Nat.le_of_ble_eq_true rfl) d_Y_put_140 (fun H locs hW hS => ?_)
          exact q_vret hx hb hr hlk hK hW hS h d_Y_put_143
    · have h := ite_f h hc
      refine lv_aload_n hx hb d_Y_put_31 rfl (lv_at hl 1 rfl) ?_
      refine lv_iload_n hx hb d_Y_put_32 rfl (lv_at hl 2 rfl) ?_
      obtain ⟨z36, ez36, h⟩ := bnd h
      refine q_callVv (C := "DeficitNetModel") (As := [.int x1]) (rest := []) hx hb hml hown hts hK hW hS (c_Y_lose l G b x1 z4 z36 ez36) f_Y_lose t_698 ⟨rfl, rfl⟩ ⟨Nat.le_of_ble_eq_true rfl, Nat.le_of_ble_eq_true rfl⟩ (q_recv (L := LY) (kc := 0) (ki := 0) hK hW okY0 rfl rfl) rfl hl.1 rfl (Nat.le_of_ble_eq_true rfl) d_Y_put_33 (fun H locs hW hS => ?_)
      exact q_vret hx hb hr hlk hK hW hS h d_Y_put_36
set_option maxHeartbeats 4000000 in
set_option maxRecDepth 100000 in
theorem w_Y_make_17 {p : Program} {l : Launch} {e : Env} {s : State} {m : MethodId} {args : Array Value} {below : List Frame} {meth : Method} {c : Code} {G : GG} {b : Nat} {z0 : Mem} (C : Cx y_Y_make b_Y_make 6 none p s m args meth c G) {k40 : Int32 → Int32 → Int32 → Int32 → Int32 → Mem → Option Mem} 
    (hk40 : ∀ (x1 : Int32) (x2 : Int32) (x3 : Int32) (x4 : Int32) (x5 : Int32) (z : Mem) (ls : Array Slot) (H : Heap) (locs : List Loc), Wd LY G b z H → va_S (rgL LY b) s.heap H locs → lv_has ls 6 [(0, .ref (ad LY b 0 0)), (1, .int x1), (2, .int x2), (3, .int x3), (4, .int x4), (5, .int x5)] → k40 x1 x2 x3 x4 x5 z = some z0 → W p l e rm_Y_make s m args below meth c H locs 0 0 (MQ below (QV LY G b z0) args s 0 0 (rgL LY b)) (F0 m 40 ls [])) :
    ∀ (n : Nat) (x1 : Int32) (x2 : Int32) (x3 : Int32) (x4 : Int32) (x5 : Int32) (z : Mem) (ls : Array Slot) (H : Heap) (locs : List Loc), Wd LY G b z H → va_S (rgL LY b) s.heap H locs → lv_has ls 6 [(0, .ref (ad LY b 0 0)), (1, .int x1), (2, .int x2), (3, .int x3), (4, .int x4), (5, .int x5)] → dn_Y_make_17 k40 n x1 x2 x3 x4 x5 z = some z0 → W p l e rm_Y_make s m args below meth c H locs 0 0 (MQ below (QV LY G b z0) args s 0 0 (rgL LY b)) (F0 m 17 ls []) := by
  obtain ⟨hx, hb, hml, hr, hown, hts, hlk, hK⟩ := C
  intro n
  induction n with
  | zero =>
    intro x1 x2 x3 x4 x5 z ls H locs  hW hS hl h
    cases h
  | succ n ih =>
    intro x1 x2 x3 x4 x5 z ls H locs  hW hS hl h
    rw [dn_Y_make_17] at h
    refine lv_iload hx hb d_Y_make_17 (lv_at hl 5 rfl) ?_
    refine lv_bipush (v := (64 : Int32)) hx hb d_Y_make_19 (by decide) ?_
    refine lv_icmp_ge (tgt := 40) hx hb d_Y_make_21 (by decide) (fun hc => ?_) (fun hc => ?_)
    · have h := ite_t h hc
      exact hk40 x1 x2 x3 x4 x5 z ls H locs  hW hS (lv_sub hl [0, 1, 2, 3, 4, 5] rfl) h
    · have h := ite_f h hc
      refine lv_aload_n hx hb d_Y_make_24 rfl (lv_at hl 0 rfl) ?_
      refine q_get (L := LY) (kc := 0) (ki := 0) (C := "DeficitNetModel") (T := T_Y) (N := 40) (ci := 5) (v := .ref (ad LY b 24 0)) hx hb hts in_Y hown hK hW okY0 rfl rfl 25 (by decide) t_505 rfl d_Y_make_25 ?_
      refine lv_iload hx hb d_Y_make_28 (lv_at hl 5 rfl) ?_
      obtain ⟨j4, ej4, h⟩ := bnd h
      refine q_iald (L := LY) (kc := 24) (ki := 0) hx hb hK hW okY24 rfl ej4 d_Y_make_30 ?_
      refine lv_if_eq (tgt := 40) hx hb d_Y_make_31 (by decide) (fun hc => ?_) (fun hc => ?_)
      · have h := ite_t h hc
        exact hk40 x1 x2 x3 x4 x5 z ls H locs  hW hS (lv_sub hl [0, 1, 2, 3, 4, 5] rfl) h
      · have h := ite_f h hc
        refine lv_iinc (k := 5) (v := (x5 + (1 : Int32))) hx hb d_Y_make_34 hl rfl rfl (by decide) rfl (fun ls hl => ?_)
        have hl : lv_has ls 6 [(5, .int (x5 + (1 : Int32))), (0, .ref (ad LY b 0 0)), (1, .int x1), (2, .int x2), (3, .int x3), (4, .int x4)] := hl
        refine lv_goto (tgt := 17) hx hb d_Y_make_37 (by decide) ?_
        exact ih x1 x2 x3 x4 (x5 + (1 : Int32)) z ls H locs  hW hS (lv_sub hl [1, 2, 3, 4, 5, 0] rfl) h
set_option maxHeartbeats 4000000 in
set_option maxRecDepth 100000 in
theorem c_Y_make (l : Launch) (G : GG) (b : Nat) (x1 : Int32) (x2 : Int32) (x3 : Int32) (x4 : Int32) (z : Mem) (z0 : Mem) (h : dn_Y_make x1 x2 x3 x4 z = some z0) : MtW l y_Y_make b_Y_make 6 none rm_Y_make LY G b [.ref (ad LY b 0 0), .int x1, .int x2, .int x3, .int x4] z (QV LY G b z0) := by
  refine mtW_of (by decide) (Nat.le_of_ble_eq_true rfl) ?_
  intro p e s m args below meth c ls H locs C hW hS hl
  obtain ⟨hx, hb, hml, hr, hown, hts, hlk, hK⟩ := C
  have hl : lv_has ls 6 [(0, .ref (ad LY b 0 0)), (1, .int x1), (2, .int x2), (3, .int x3), (4, .int x4)] := hl
  unfold dn_Y_make at h
  refine lv_aload_n hx hb d_Y_make_0 rfl (lv_at hl 0 rfl) ?_
  refine q_get (L := LY) (kc := 0) (ki := 0) (C := "DeficitNetModel") (T := T_Y) (N := 40) (ci := 5) (v := .ref (ad LY b 23 0)) hx hb hts in_Y hown hK hW okY0 rfl rfl 24 (by decide) t_504 rfl d_Y_make_1 ?_
  refine lv_iconst (v := (4 : Int32)) hx hb d_Y_make_4 (by decide) ?_
  refine lv_iload_n hx hb d_Y_make_5 rfl (lv_at hl 1 rfl) ?_
  refine lv_imul hx hb d_Y_make_6 ?_
  refine lv_iconst (v := (0 : Int32)) hx hb d_Y_make_7 (by decide) ?_
  refine lv_iadd hx hb d_Y_make_8 ?_
  refine lv_dup2_11 hx hb d_Y_make_9 rfl rfl ?_
  obtain ⟨j1, ej1, h⟩ := bnd h
  refine q_iald (L := LY) (kc := 23) (ki := 0) hx hb hK hW okY23 rfl ej1 d_Y_make_10 ?_
  refine lv_iconst (v := (1 : Int32)) hx hb d_Y_make_11 (by decide) ?_
  refine lv_iadd hx hb d_Y_make_12 ?_
  obtain ⟨j2, ej2, h⟩ := bnd h
  refine q_iast (L := LY) (kc := 23) (ki := 0) hx hb hK hW hS okY23 (fun _ => rfl) ej2 d_Y_make_13 (fun H locs z3 ez3 hW hS => ?_)
  have h := stM_n h ez3
  refine lv_iconst (v := (0 : Int32)) hx hb d_Y_make_14 (by decide) ?_
  refine lv_istore hx hb d_Y_make_15 hl (by decide) rfl (fun ls hl => ?_)
  have hl : lv_has ls 6 [(5, .int (0 : Int32)), (0, .ref (ad LY b 0 0)), (1, .int x1), (2, .int x2), (3, .int x3), (4, .int x4)] := hl
  refine w_Y_make_17 ⟨hx, hb, hml, hr, hown, hts, hlk, hK⟩ (fun x1 x2 x3 x4 x5 z5 ls H locs  hW hS hl h => ?_) FU x1 x2 x3 x4 (0 : Int32) z3 ls H locs  hW hS (lv_sub hl [1, 2, 3, 4, 5, 0] rfl) h
  · refine lv_iload hx hb d_Y_make_40 (lv_at hl 5 rfl) ?_
    refine lv_bipush (v := (64 : Int32)) hx hb d_Y_make_42 (by decide) ?_
    refine lv_icmp_ne (tgt := 62) hx hb d_Y_make_44 (by decide) (fun hc => ?_) (fun hc => ?_)
    · have h := ite_f h hc
      refine lv_aload_n hx hb d_Y_make_62 rfl (lv_at hl 0 rfl) ?_
      refine q_get (L := LY) (kc := 0) (ki := 0) (C := "DeficitNetModel") (T := T_Y) (N := 40) (ci := 5) (v := .ref (ad LY b 25 0)) hx hb hts in_Y hown hK hW okY0 rfl rfl 26 (by decide) t_506 rfl d_Y_make_63 ?_
      refine lv_iload hx hb d_Y_make_66 (lv_at hl 5 rfl) ?_
      refine lv_iload_n hx hb d_Y_make_68 rfl (lv_at hl 1 rfl) ?_
      obtain ⟨j6, ej6, h⟩ := bnd h
      refine q_iast (L := LY) (kc := 25) (ki := 0) hx hb hK hW hS okY25 (fun _ => rfl) ej6 d_Y_make_69 (fun H locs z7 ez7 hW hS => ?_)
      have h := stM_n h ez7
      refine lv_aload_n hx hb d_Y_make_70 rfl (lv_at hl 0 rfl) ?_
      refine q_get (L := LY) (kc := 0) (ki := 0) (C := "DeficitNetModel") (T := T_Y) (N := 40) (ci := 5) (v := .ref (ad LY b 26 0)) hx hb hts in_Y hown hK hW okY0 rfl rfl 27 (by decide) t_507 rfl d_Y_make_71 ?_
      refine lv_iload hx hb d_Y_make_74 (lv_at hl 5 rfl) ?_
      refine lv_iload_n hx hb d_Y_make_76 rfl (lv_at hl 2 rfl) ?_
      obtain ⟨j8, ej8, h⟩ := bnd h
      refine q_iast (L := LY) (kc := 26) (ki := 0) hx hb hK hW hS okY26 (fun _ => rfl) ej8 d_Y_make_77 (fun H locs z9 ez9 hW hS => ?_)
      have h := stM_n h ez9
      refine lv_aload_n hx hb d_Y_make_78 rfl (lv_at hl 0 rfl) ?_
      refine q_get (L := LY) (kc := 0) (ki := 0) (C := "DeficitNetModel") (T := T_Y) (N := 40) (ci := 5) (v := .ref (ad LY b 27 0)) hx hb hts in_Y hown hK hW okY0 rfl rfl 28 (by decide) t_508 rfl d_Y_make_79 ?_
      refine lv_iload hx hb d_Y_make_82 (lv_at hl 5 rfl) ?_
      refine lv_iload_n hx hb d_Y_make_84 rfl (lv_at hl 3 rfl) ?_
      obtain ⟨_, u10, h⟩ := bnd h
      obtain ⟨j11, ej11, h⟩ := bnd h
      refine q_zast (L := LY) (kc := 27) (ki := 0) hx hb hK hW hS okY27 (fun _ => rfl) (bz_some u10) ej11 d_Y_make_85 (fun H locs z12 ez12 hW hS => ?_)
      have h := stM_n h ez12
      refine lv_aload_n hx hb d_Y_make_86 rfl (lv_at hl 0 rfl) ?_
      refine lv_iload hx hb d_Y_make_87 (lv_at hl 5 rfl) ?_
      refine lv_iload hx hb d_Y_make_89 (lv_at hl 4 rfl) ?_
      obtain ⟨z13, ez13, h⟩ := bnd h
      refine q_callVv (C := "DeficitNetModel") (As := [.int x5, .int x4]) (rest := []) hx hb hml hown hts hK hW hS (c_Y_put l G b x5 x4 z12 z13 ez13) f_Y_put t_685 ⟨rfl, rfl⟩ ⟨Nat.le_of_ble_eq_true rfl, Nat.le_of_ble_eq_true rfl⟩ (q_recv (L := LY) (kc := 0) (ki := 0) hK hW okY0 rfl rfl) rfl hl.1 rfl (Nat.le_of_ble_eq_true rfl) d_Y_make_91 (fun H locs hW hS => ?_)
      exact q_vret hx hb hr hlk hK hW hS h d_Y_make_94
    · have h := ite_t h hc
      refine lv_aload_n hx hb d_Y_make_47 rfl (lv_at hl 0 rfl) ?_
      refine q_get (L := LY) (kc := 0) (ki := 0) (C := "DeficitNetModel") (T := T_Y) (N := 40) (ci := 5) (v := .ref (ad LY b 23 0)) hx hb hts in_Y hown hK hW okY0 rfl rfl 24 (by decide) t_504 rfl d_Y_make_48 ?_
      refine lv_iconst (v := (4 : Int32)) hx hb d_Y_make_51 (by decide) ?_
      refine lv_iload_n hx hb d_Y_make_52 rfl (lv_at hl 1 rfl) ?_
      refine lv_imul hx hb d_Y_make_53 ?_
      refine lv_iconst (v := (2 : Int32)) hx hb d_Y_make_54 (by decide) ?_
      refine lv_iadd hx hb d_Y_make_55 ?_
      refine lv_dup2_11 hx hb d_Y_make_56 rfl rfl ?_
      obtain ⟨j14, ej14, h⟩ := bnd h
      refine q_iald (L := LY) (kc := 23) (ki := 0) hx hb hK hW okY23 rfl ej14 d_Y_make_57 ?_
      refine lv_iconst (v := (1 : Int32)) hx hb d_Y_make_58 (by decide) ?_
      refine lv_iadd hx hb d_Y_make_59 ?_
      obtain ⟨j15, ej15, h⟩ := bnd h
      refine q_iast (L := LY) (kc := 23) (ki := 0) hx hb hK hW hS okY23 (fun _ => rfl) ej15 d_Y_make_60 (fun H locs z16 ez16 hW hS => ?_)
      have h := stM_n h ez16
      exact q_vret hx hb hr hlk hK hW hS h d_Y_make_61
set_option maxHeartbeats 4000000 in
set_option maxRecDepth 100000 in
theorem c_Y_setTimeout (l : Launch) (G : GG) (b : Nat) (x1 : Int32) (z : Mem) (z0 : Mem) (h : dn_Y_setTimeout x1 z = some z0) : MtW l y_Y_setTimeout b_Y_setTimeout 2 none rm_Y_setTimeout LY G b [.ref (ad LY b 0 0), .int x1] z (QV LY G b z0) := by
  refine mtW_of (by decide) (Nat.le_of_ble_eq_true rfl) ?_
  intro p e s m args below meth c ls H locs C hW hS hl
  obtain ⟨hx, hb, hml, hr, hown, hts, hlk, hK⟩ := C
  have hl : lv_has ls 2 [(0, .ref (ad LY b 0 0)), (1, .int x1)] := hl
  unfold dn_Y_setTimeout at h
  refine lv_aload_n hx hb d_Y_setTimeout_0 rfl (lv_at hl 0 rfl) ?_
  refine q_get (L := LY) (kc := 0) (ki := 0) (C := "DeficitNetModel") (T := T_Y) (N := 40) (ci := 5) (v := .ref (ad LY b 21 0)) hx hb hts in_Y hown hK hW okY0 rfl rfl 22 (by decide) t_502 rfl d_Y_setTimeout_1 ?_
  refine lv_iload_n hx hb d_Y_setTimeout_4 rfl (lv_at hl 1 rfl) ?_
  refine lv_aload_n hx hb d_Y_setTimeout_5 rfl (lv_at hl 0 rfl) ?_
  refine q_get (L := LY) (kc := 0) (ki := 0) (C := "DeficitNetModel") (T := T_Y) (N := 40) (ci := 5) (v := .int (z.1 0 0 36)) hx hb hts in_Y hown hK hW okY0 rfl rfl 36 (by decide) t_516 rfl d_Y_setTimeout_6 ?_
  refine lv_aload_n hx hb d_Y_setTimeout_9 rfl (lv_at hl 0 rfl) ?_
  refine q_get (L := LY) (kc := 0) (ki := 0) (C := "DeficitNetModel") (T := T_Y) (N := 40) (ci := 5) (v := .ref (ad LY b 14 0)) hx hb hts in_Y hown hK hW okY0 rfl rfl 15 (by decide) t_495 rfl d_Y_setTimeout_10 ?_
  refine lv_iload_n hx hb d_Y_setTimeout_13 rfl (lv_at hl 1 rfl) ?_
  obtain ⟨j1, ej1, h⟩ := bnd h
  refine q_iald (L := LY) (kc := 14) (ki := 0) hx hb hK hW okY14 rfl ej1 d_Y_setTimeout_14 ?_
  refine lv_iadd hx hb d_Y_setTimeout_15 ?_
  obtain ⟨j2, ej2, h⟩ := bnd h
  refine q_iast (L := LY) (kc := 21) (ki := 0) hx hb hK hW hS okY21 (fun _ => rfl) ej2 d_Y_setTimeout_16 (fun H locs z3 ez3 hW hS => ?_)
  have h := stM_n h ez3
  refine lv_aload_n hx hb d_Y_setTimeout_17 rfl (lv_at hl 0 rfl) ?_
  refine q_get (L := LY) (kc := 0) (ki := 0) (C := "DeficitNetModel") (T := T_Y) (N := 40) (ci := 5) (v := .ref (ad LY b 22 0)) hx hb hts in_Y hown hK hW okY0 rfl rfl 23 (by decide) t_503 rfl d_Y_setTimeout_18 ?_
  refine lv_iload_n hx hb d_Y_setTimeout_21 rfl (lv_at hl 1 rfl) ?_
  refine lv_aload_n hx hb d_Y_setTimeout_22 rfl (lv_at hl 0 rfl) ?_
  refine lv_dup hx hb d_Y_setTimeout_23 rfl ?_
  refine q_get (L := LY) (kc := 0) (ki := 0) (C := "DeficitNetModel") (T := T_Y) (N := 40) (ci := 5) (v := .int (z3.1 0 0 37)) hx hb hts in_Y hown hK hW okY0 rfl rfl 37 (by decide) t_517 rfl d_Y_setTimeout_24 ?_
  refine lv_iconst (v := (1 : Int32)) hx hb d_Y_setTimeout_27 (by decide) ?_
  refine lv_iadd hx hb d_Y_setTimeout_28 ?_
  refine lv_dup_x1 hx hb d_Y_setTimeout_29 rfl rfl ?_
  refine q_put (L := LY) (kc := 0) (ki := 0) (C := "DeficitNetModel") (T := T_Y) (N := 40) (ci := 5) hx hb hts in_Y ty_Y tyok_Y nm_Y hown hK hW hS okY0 rfl rfl 37 (by decide) t_517 rfl rfl rfl (Nat.le_of_ble_eq_true rfl) rfl d_Y_setTimeout_30 (fun H locs z4 ez4 hW hS => ?_)
  have h := stM_n h ez4
  obtain ⟨j5, ej5, h⟩ := bnd h
  refine q_iast (L := LY) (kc := 22) (ki := 0) hx hb hK hW hS okY22 (fun _ => rfl) ej5 d_Y_setTimeout_33 (fun H locs z6 ez6 hW hS => ?_)
  have h := stM_n h ez6
  exact q_vret hx hb hr hlk hK hW hS h d_Y_setTimeout_34
set_option maxHeartbeats 4000000 in
set_option maxRecDepth 100000 in
theorem w_Y_fill_0 {p : Program} {l : Launch} {e : Env} {s : State} {m : MethodId} {args : Array Value} {below : List Frame} {meth : Method} {c : Code} {G : GG} {b : Nat} {z0 : Mem} (C : Cx y_Y_fill b_Y_fill 3 none p s m args meth c G) {k84 : Mem → Option Mem} 
    (hk84 : ∀  (z : Mem) (ls : Array Slot) (H : Heap) (locs : List Loc), Wd LY G b z H → va_S (rgL LY b) s.heap H locs → lv_has ls 3 [] → k84  z = some z0 → W p l e rm_Y_fill s m args below meth c H locs 0 0 (MQ below (QV LY G b z0) args s 0 0 (rgL LY b)) (F0 m 84 ls [])) :
    ∀ (n : Nat) (x1 : Int32) (z : Mem) (ls : Array Slot) (H : Heap) (locs : List Loc), Wd LY G b z H → va_S (rgL LY b) s.heap H locs → lv_has ls 3 [(0, .ref (ad LY b 0 0)), (1, .int x1)] → dn_Y_fill_0 k84 n x1 z = some z0 → W p l e rm_Y_fill s m args below meth c H locs 0 0 (MQ below (QV LY G b z0) args s 0 0 (rgL LY b)) (F0 m 0 ls []) := by
  obtain ⟨hx, hb, hml, hr, hown, hts, hlk, hK⟩ := C
  intro n
  induction n with
  | zero =>
    intro x1 z ls H locs  hW hS hl h
    cases h
  | succ n ih =>
    intro x1 z ls H locs  hW hS hl h
    rw [dn_Y_fill_0] at h
    refine lv_aload_n hx hb d_Y_fill_0 rfl (lv_at hl 0 rfl) ?_
    refine q_get (L := LY) (kc := 0) (ki := 0) (C := "DeficitNetModel") (T := T_Y) (N := 40) (ci := 5) (v := .ref (ad LY b 17 0)) hx hb hts in_Y hown hK hW okY0 rfl rfl 18 (by decide) t_498 rfl d_Y_fill_1 ?_
    refine lv_iload_n hx hb d_Y_fill_4 rfl (lv_at hl 1 rfl) ?_
    obtain ⟨j1, ej1, h⟩ := bnd h
    refine q_iald (L := LY) (kc := 17) (ki := 0) hx hb hK hW okY17 rfl ej1 d_Y_fill_5 ?_
    refine lv_aload_n hx hb d_Y_fill_6 rfl (lv_at hl 0 rfl) ?_
    refine q_get (L := LY) (kc := 0) (ki := 0) (C := "DeficitNetModel") (T := T_Y) (N := 40) (ci := 5) (v := .ref (ad LY b 16 0)) hx hb hts in_Y hown hK hW okY0 rfl rfl 17 (by decide) t_497 rfl d_Y_fill_7 ?_
    refine lv_iload_n hx hb d_Y_fill_10 rfl (lv_at hl 1 rfl) ?_
    obtain ⟨j2, ej2, h⟩ := bnd h
    refine q_iald (L := LY) (kc := 16) (ki := 0) hx hb hK hW okY16 rfl ej2 d_Y_fill_11 ?_
    refine lv_aload_n hx hb d_Y_fill_12 rfl (lv_at hl 0 rfl) ?_
    refine q_get (L := LY) (kc := 0) (ki := 0) (C := "DeficitNetModel") (T := T_Y) (N := 40) (ci := 5) (v := .ref (ad LY b 13 0)) hx hb hts in_Y hown hK hW okY0 rfl rfl 14 (by decide) t_494 rfl d_Y_fill_13 ?_
    refine lv_iload_n hx hb d_Y_fill_16 rfl (lv_at hl 1 rfl) ?_
    obtain ⟨j3, ej3, h⟩ := bnd h
    refine q_iald (L := LY) (kc := 13) (ki := 0) hx hb hK hW okY13 rfl ej3 d_Y_fill_17 ?_
    refine lv_iadd hx hb d_Y_fill_18 ?_
    refine lv_icmp_ge (tgt := 84) hx hb d_Y_fill_19 (by decide) (fun hc => ?_) (fun hc => ?_)
    · have h := ite_t h hc
      exact hk84  z ls H locs  hW hS (lv_sub hl [] rfl) h
    · have h := ite_f h hc
      refine lv_aload_n hx hb d_Y_fill_22 rfl (lv_at hl 0 rfl) ?_
      refine q_get (L := LY) (kc := 0) (ki := 0) (C := "DeficitNetModel") (T := T_Y) (N := 40) (ci := 5) (v := .ref (ad LY b 17 0)) hx hb hts in_Y hown hK hW okY0 rfl rfl 18 (by decide) t_498 rfl d_Y_fill_23 ?_
      refine lv_iload_n hx hb d_Y_fill_26 rfl (lv_at hl 1 rfl) ?_
      obtain ⟨j4, ej4, h⟩ := bnd h
      refine q_iald (L := LY) (kc := 17) (ki := 0) hx hb hK hW okY17 rfl ej4 d_Y_fill_27 ?_
      refine lv_aload_n hx hb d_Y_fill_28 rfl (lv_at hl 0 rfl) ?_
      refine q_get (L := LY) (kc := 0) (ki := 0) (C := "DeficitNetModel") (T := T_Y) (N := 40) (ci := 5) (v := .ref (ad LY b 11 0)) hx hb hts in_Y hown hK hW okY0 rfl rfl 12 (by decide) t_492 rfl d_Y_fill_29 ?_
      refine lv_iload_n hx hb d_Y_fill_32 rfl (lv_at hl 1 rfl) ?_
      obtain ⟨j5, ej5, h⟩ := bnd h
      refine q_iald (L := LY) (kc := 11) (ki := 0) hx hb hK hW okY11 rfl ej5 d_Y_fill_33 ?_
      refine lv_icmp_ge (tgt := 84) hx hb d_Y_fill_34 (by decide) (fun hc => ?_) (fun hc => ?_)
      · have h := ite_t h hc
        exact hk84  z ls H locs  hW hS (lv_sub hl [] rfl) h
      · have h := ite_f h hc
        refine lv_aload_n hx hb d_Y_fill_37 rfl (lv_at hl 0 rfl) ?_
        refine q_get (L := LY) (kc := 0) (ki := 0) (C := "DeficitNetModel") (T := T_Y) (N := 40) (ci := 5) (v := .ref (ad LY b 21 0)) hx hb hts in_Y hown hK hW okY0 rfl rfl 22 (by decide) t_502 rfl d_Y_fill_38 ?_
        refine lv_iload_n hx hb d_Y_fill_41 rfl (lv_at hl 1 rfl) ?_
        obtain ⟨j6, ej6, h⟩ := bnd h
        refine q_iald (L := LY) (kc := 21) (ki := 0) hx hb hK hW okY21 rfl ej6 d_Y_fill_42 ?_
        refine lv_iconst (v := (-1 : Int32)) hx hb d_Y_fill_43 (by decide) ?_
        refine lv_icmp_ne (tgt := 52) hx hb d_Y_fill_44 (by decide) (fun hc => ?_) (fun hc => ?_)
        · have h := ite_f h hc
          refine lv_aload_n hx hb d_Y_fill_52 rfl (lv_at hl 0 rfl) ?_
          refine q_get (L := LY) (kc := 0) (ki := 0) (C := "DeficitNetModel") (T := T_Y) (N := 40) (ci := 5) (v := .ref (ad LY b 17 0)) hx hb hts in_Y hown hK hW okY0 rfl rfl 18 (by decide) t_498 rfl d_Y_fill_53 ?_
          refine lv_iload_n hx hb d_Y_fill_56 rfl (lv_at hl 1 rfl) ?_
          obtain ⟨j7, ej7, h⟩ := bnd h
          refine q_iald (L := LY) (kc := 17) (ki := 0) hx hb hK hW okY17 rfl ej7 d_Y_fill_57 ?_
          refine lv_istore_n hx hb d_Y_fill_58 rfl hl (by decide) rfl (fun ls hl => ?_)
          have hl : lv_has ls 3 [(2, .int (z.1 17 0 j7)), (0, .ref (ad LY b 0 0)), (1, .int x1)] := hl
          refine lv_aload_n hx hb d_Y_fill_59 rfl (lv_at hl 1 rfl) ?_
          refine lv_iload_n hx hb d_Y_fill_60 rfl (lv_at hl 2 rfl) ?_
          refine lv_iload_n hx hb d_Y_fill_61 rfl (lv_at hl 0 rfl) ?_
          refine lv_iconst (v := (0 : Int32)) hx hb d_Y_fill_62 (by decide) ?_
          refine lv_aload_n hx hb d_Y_fill_63 rfl (lv_at hl 1 rfl) ?_
          refine q_get (L := LY) (kc := 0) (ki := 0) (C := "DeficitNetModel") (T := T_Y) (N := 40) (ci := 5) (v := .ref (ad LY b 9 0)) hx hb hts in_Y hown hK hW okY0 rfl rfl 10 (by decide) t_490 rfl d_Y_fill_64 ?_
          refine lv_iload_n hx hb d_Y_fill_67 rfl (lv_at hl 2 rfl) ?_
          obtain ⟨j8, ej8, h⟩ := bnd h
          refine q_iald (L := LY) (kc := 9) (ki := 0) hx hb hK hW okY9 rfl ej8 d_Y_fill_68 ?_
          obtain ⟨z9, ez9, h⟩ := bnd h
          refine q_callVv (C := "DeficitNetModel") (As := [.int x1, .int (z.1 17 0 j7), .int (0 : Int32), .int (z.1 9 0 j8)]) (rest := []) hx hb hml hown hts hK hW hS (c_Y_make l G b x1 (z.1 17 0 j7) (0 : Int32) (z.1 9 0 j8) z z9 ez9) f_Y_make t_681 ⟨rfl, rfl⟩ ⟨Nat.le_of_ble_eq_true rfl, Nat.le_of_ble_eq_true rfl⟩ (q_recv (L := LY) (kc := 0) (ki := 0) hK hW okY0 rfl rfl) rfl hl.1 rfl (Nat.le_of_ble_eq_true rfl) d_Y_fill_69 (fun H locs hW hS => ?_)
          refine lv_aload_n hx hb d_Y_fill_72 rfl (lv_at hl 1 rfl) ?_
          refine q_get (L := LY) (kc := 0) (ki := 0) (C := "DeficitNetModel") (T := T_Y) (N := 40) (ci := 5) (v := .ref (ad LY b 17 0)) hx hb hts in_Y hown hK hW okY0 rfl rfl 18 (by decide) t_498 rfl d_Y_fill_73 ?_
          refine lv_iload_n hx hb d_Y_fill_76 rfl (lv_at hl 2 rfl) ?_
          refine lv_iload_n hx hb d_Y_fill_77 rfl (lv_at hl 0 rfl) ?_
          refine lv_iconst (v := (1 : Int32)) hx hb d_Y_fill_78 (by decide) ?_
          refine lv_iadd hx hb d_Y_fill_79 ?_
          obtain ⟨j10, ej10, h⟩ := bnd h
          refine q_iast (L := LY) (kc := 17) (ki := 0) hx hb hK hW hS okY17 (fun _ => rfl) ej10 d_Y_fill_80 (fun H locs z11 ez11 hW hS => ?_)
          have h := stM_n h ez11
          refine lv_goto (tgt := 0) hx hb d_Y_fill_81 (by decide) ?_
          exact ih x1 z11 ls H locs  hW hS (lv_sub hl [1, 2] rfl) h
        · have h := ite_t h hc
          refine lv_aload_n hx hb d_Y_fill_47 rfl (lv_at hl 0 rfl) ?_
          refine lv_iload_n hx hb d_Y_fill_48 rfl (lv_at hl 1 rfl) ?_
          obtain ⟨z12, ez12, h⟩ := bnd h
          refine q_callVv (C := "DeficitNetModel") (As := [.int x1]) (rest := []) hx hb hml hown hts hK hW hS (c_Y_setTimeout l G b x1 z z12 ez12) f_Y_setTimeout t_677 ⟨rfl, rfl⟩ ⟨Nat.le_of_ble_eq_true rfl, Nat.le_of_ble_eq_true rfl⟩ (q_recv (L := LY) (kc := 0) (ki := 0) hK hW okY0 rfl rfl) rfl hl.1 rfl (Nat.le_of_ble_eq_true rfl) d_Y_fill_49 (fun H locs hW hS => ?_)
          refine lv_aload_n hx hb d_Y_fill_52 rfl (lv_at hl 0 rfl) ?_
          refine q_get (L := LY) (kc := 0) (ki := 0) (C := "DeficitNetModel") (T := T_Y) (N := 40) (ci := 5) (v := .ref (ad LY b 17 0)) hx hb hts in_Y hown hK hW okY0 rfl rfl 18 (by decide) t_498 rfl d_Y_fill_53 ?_
          refine lv_iload_n hx hb d_Y_fill_56 rfl (lv_at hl 1 rfl) ?_
          obtain ⟨j13, ej13, h⟩ := bnd h
          refine q_iald (L := LY) (kc := 17) (ki := 0) hx hb hK hW okY17 rfl ej13 d_Y_fill_57 ?_
          refine lv_istore_n hx hb d_Y_fill_58 rfl hl (by decide) rfl (fun ls hl => ?_)
          have hl : lv_has ls 3 [(2, .int (z12.1 17 0 j13)), (0, .ref (ad LY b 0 0)), (1, .int x1)] := hl
          refine lv_aload_n hx hb d_Y_fill_59 rfl (lv_at hl 1 rfl) ?_
          refine lv_iload_n hx hb d_Y_fill_60 rfl (lv_at hl 2 rfl) ?_
          refine lv_iload_n hx hb d_Y_fill_61 rfl (lv_at hl 0 rfl) ?_
          refine lv_iconst (v := (0 : Int32)) hx hb d_Y_fill_62 (by decide) ?_
          refine lv_aload_n hx hb d_Y_fill_63 rfl (lv_at hl 1 rfl) ?_
          refine q_get (L := LY) (kc := 0) (ki := 0) (C := "DeficitNetModel") (T := T_Y) (N := 40) (ci := 5) (v := .ref (ad LY b 9 0)) hx hb hts in_Y hown hK hW okY0 rfl rfl 10 (by decide) t_490 rfl d_Y_fill_64 ?_
          refine lv_iload_n hx hb d_Y_fill_67 rfl (lv_at hl 2 rfl) ?_
          obtain ⟨j14, ej14, h⟩ := bnd h
          refine q_iald (L := LY) (kc := 9) (ki := 0) hx hb hK hW okY9 rfl ej14 d_Y_fill_68 ?_
          obtain ⟨z15, ez15, h⟩ := bnd h
          refine q_callVv (C := "DeficitNetModel") (As := [.int x1, .int (z12.1 17 0 j13), .int (0 : Int32), .int (z12.1 9 0 j14)]) (rest := []) hx hb hml hown hts hK hW hS (c_Y_make l G b x1 (z12.1 17 0 j13) (0 : Int32) (z12.1 9 0 j14) z12 z15 ez15) f_Y_make t_681 ⟨rfl, rfl⟩ ⟨Nat.le_of_ble_eq_true rfl, Nat.le_of_ble_eq_true rfl⟩ (q_recv (L := LY) (kc := 0) (ki := 0) hK hW okY0 rfl rfl) rfl hl.1 rfl (Nat.le_of_ble_eq_true rfl) d_Y_fill_69 (fun H locs hW hS => ?_)
          refine lv_aload_n hx hb d_Y_fill_72 rfl (lv_at hl 1 rfl) ?_
          refine q_get (L := LY) (kc := 0) (ki := 0) (C := "DeficitNetModel") (T := T_Y) (N := 40) (ci := 5) (v := .ref (ad LY b 17 0)) hx hb hts in_Y hown hK hW okY0 rfl rfl 18 (by decide) t_498 rfl d_Y_fill_73 ?_
          refine lv_iload_n hx hb d_Y_fill_76 rfl (lv_at hl 2 rfl) ?_
          refine lv_iload_n hx hb d_Y_fill_77 rfl (lv_at hl 0 rfl) ?_
          refine lv_iconst (v := (1 : Int32)) hx hb d_Y_fill_78 (by decide) ?_
          refine lv_iadd hx hb d_Y_fill_79 ?_
          obtain ⟨j16, ej16, h⟩ := bnd h
          refine q_iast (L := LY) (kc := 17) (ki := 0) hx hb hK hW hS okY17 (fun _ => rfl) ej16 d_Y_fill_80 (fun H locs z17 ez17 hW hS => ?_)
          have h := stM_n h ez17
          refine lv_goto (tgt := 0) hx hb d_Y_fill_81 (by decide) ?_
          exact ih x1 z17 ls H locs  hW hS (lv_sub hl [1, 2] rfl) h
set_option maxHeartbeats 4000000 in
set_option maxRecDepth 100000 in
theorem c_Y_fill (l : Launch) (G : GG) (b : Nat) (x1 : Int32) (z : Mem) (z0 : Mem) (h : dn_Y_fill x1 z = some z0) : MtW l y_Y_fill b_Y_fill 3 none rm_Y_fill LY G b [.ref (ad LY b 0 0), .int x1] z (QV LY G b z0) := by
  refine mtW_of (by decide) (Nat.le_of_ble_eq_true rfl) ?_
  intro p e s m args below meth c ls H locs C hW hS hl
  obtain ⟨hx, hb, hml, hr, hown, hts, hlk, hK⟩ := C
  have hl : lv_has ls 3 [(0, .ref (ad LY b 0 0)), (1, .int x1)] := hl
  unfold dn_Y_fill at h
  refine w_Y_fill_0 ⟨hx, hb, hml, hr, hown, hts, hlk, hK⟩ (fun z18 ls H locs  hW hS hl h => ?_) FU x1 z ls H locs  hW hS (lv_sub hl [0, 1] rfl) h
  · exact q_vret hx hb hr hlk hK hW hS h d_Y_fill_84
set_option maxHeartbeats 4000000 in
set_option maxRecDepth 100000 in
theorem c_Y_arrive (l : Launch) (G : GG) (b : Nat) (x1 : Int32) (z : Mem) (z0 : Mem) (h : dn_Y_arrive x1 z = some z0) : MtW l y_Y_arrive b_Y_arrive 5 none rm_Y_arrive LY G b [.ref (ad LY b 0 0), .int x1] z (QV LY G b z0) := by
  refine mtW_of (by decide) (Nat.le_of_ble_eq_true rfl) ?_
  intro p e s m args below meth c ls H locs C hW hS hl
  obtain ⟨hx, hb, hml, hr, hown, hts, hlk, hK⟩ := C
  have hl : lv_has ls 5 [(0, .ref (ad LY b 0 0)), (1, .int x1)] := hl
  unfold dn_Y_arrive at h
  refine lv_aload_n hx hb d_Y_arrive_0 rfl (lv_at hl 0 rfl) ?_
  refine lv_aload_n hx hb d_Y_arrive_1 rfl (lv_at hl 0 rfl) ?_
  refine q_get (L := LY) (kc := 0) (ki := 0) (C := "DeficitNetModel") (T := T_Y) (N := 40) (ci := 5) (v := .ref (ad LY b 28 0)) hx hb hts in_Y hown hK hW okY0 rfl rfl 29 (by decide) t_509 rfl d_Y_arrive_2 ?_
  refine lv_iload_n hx hb d_Y_arrive_5 rfl (lv_at hl 1 rfl) ?_
  obtain ⟨j1, ej1, h⟩ := bnd h
  refine q_iald (L := LY) (kc := 28) (ki := 0) hx hb hK hW okY28 rfl ej1 d_Y_arrive_6 ?_
  obtain ⟨⟨v2, z2⟩, er2, h⟩ := bnd h
  refine q_callVi (C := "DeficitNetModel") (As := [.int (z.1 28 0 j1)]) (rest := []) hx hb hml hown hts hK hW hS (c_Y_leads l G b (z.1 28 0 j1) z v2 z2 er2) f_Y_leads t_646 ⟨rfl, rfl⟩ ⟨Nat.le_of_ble_eq_true rfl, Nat.le_of_ble_eq_true rfl⟩ (q_recv (L := LY) (kc := 0) (ki := 0) hK hW okY0 rfl rfl) rfl hl.1 rfl (Nat.le_of_ble_eq_true rfl) d_Y_arrive_7 (fun H locs hW hS => ?_)
  refine lv_istore_n hx hb d_Y_arrive_10 rfl hl (by decide) rfl (fun ls hl => ?_)
  have hl : lv_has ls 5 [(2, .int v2), (0, .ref (ad LY b 0 0)), (1, .int x1)] := hl
  refine lv_iload_n hx hb d_Y_arrive_11 rfl (lv_at hl 0 rfl) ?_
  refine lv_aload_n hx hb d_Y_arrive_12 rfl (lv_at hl 1 rfl) ?_
  refine lv_iload_n hx hb d_Y_arrive_13 rfl (lv_at hl 2 rfl) ?_
  obtain ⟨⟨v3, z3⟩, er3, h⟩ := bnd h
  refine q_callVi (C := "DeficitNetModel") (As := [.int x1]) (rest := [.int v2]) hx hb hml hown hts hK hW hS (c_Y_endOf l G b x1 z2 v3 z3 er3) f_Y_endOf t_689 ⟨rfl, rfl⟩ ⟨Nat.le_of_ble_eq_true rfl, Nat.le_of_ble_eq_true rfl⟩ (q_recv (L := LY) (kc := 0) (ki := 0) hK hW okY0 rfl rfl) rfl hl.1 rfl (Nat.le_of_ble_eq_true rfl) d_Y_arrive_14 (fun H locs hW hS => ?_)
  refine lv_icmp_eq (tgt := 27) hx hb d_Y_arrive_17 (by decide) (fun hc => ?_) (fun hc => ?_)
  · have h := ite_t h hc
    refine lv_aload_n hx hb d_Y_arrive_27 rfl (lv_at hl 1 rfl) ?_
    refine q_get (L := LY) (kc := 0) (ki := 0) (C := "DeficitNetModel") (T := T_Y) (N := 40) (ci := 5) (v := .ref (ad LY b 25 0)) hx hb hts in_Y hown hK hW okY0 rfl rfl 26 (by decide) t_506 rfl d_Y_arrive_28 ?_
    refine lv_iload_n hx hb d_Y_arrive_31 rfl (lv_at hl 2 rfl) ?_
    obtain ⟨j4, ej4, h⟩ := bnd h
    refine q_iald (L := LY) (kc := 25) (ki := 0) hx hb hK hW okY25 rfl ej4 d_Y_arrive_32 ?_
    refine lv_istore_n hx hb d_Y_arrive_33 rfl hl (by decide) rfl (fun ls hl => ?_)
    have hl : lv_has ls 5 [(3, .int (z3.1 25 0 j4)), (2, .int v2), (0, .ref (ad LY b 0 0)), (1, .int x1)] := hl
    refine lv_aload_n hx hb d_Y_arrive_34 rfl (lv_at hl 2 rfl) ?_
    refine q_get (L := LY) (kc := 0) (ki := 0) (C := "DeficitNetModel") (T := T_Y) (N := 40) (ci := 5) (v := .ref (ad LY b 26 0)) hx hb hts in_Y hown hK hW okY0 rfl rfl 27 (by decide) t_507 rfl d_Y_arrive_35 ?_
    refine lv_iload_n hx hb d_Y_arrive_38 rfl (lv_at hl 3 rfl) ?_
    obtain ⟨j5, ej5, h⟩ := bnd h
    refine q_iald (L := LY) (kc := 26) (ki := 0) hx hb hK hW okY26 rfl ej5 d_Y_arrive_39 ?_
    refine lv_istore hx hb d_Y_arrive_40 hl (by decide) rfl (fun ls hl => ?_)
    have hl : lv_has ls 5 [(4, .int (z3.1 26 0 j5)), (3, .int (z3.1 25 0 j4)), (2, .int v2), (0, .ref (ad LY b 0 0)), (1, .int x1)] := hl
    refine lv_aload_n hx hb d_Y_arrive_42 rfl (lv_at hl 3 rfl) ?_
    refine q_get (L := LY) (kc := 0) (ki := 0) (C := "DeficitNetModel") (T := T_Y) (N := 40) (ci := 5) (v := .ref (ad LY b 24 0)) hx hb hts in_Y hown hK hW okY0 rfl rfl 25 (by decide) t_505 rfl d_Y_arrive_43 ?_
    refine lv_iload_n hx hb d_Y_arrive_46 rfl (lv_at hl 4 rfl) ?_
    refine lv_iconst (v := (0 : Int32)) hx hb d_Y_arrive_47 (by decide) ?_
    obtain ⟨j6, ej6, h⟩ := bnd h
    refine q_iast (L := LY) (kc := 24) (ki := 0) hx hb hK hW hS okY24 (fun _ => rfl) ej6 d_Y_arrive_48 (fun H locs z7 ez7 hW hS => ?_)
    have h := stM_n h ez7
    refine lv_aload_n hx hb d_Y_arrive_49 rfl (lv_at hl 3 rfl) ?_
    refine q_get (L := LY) (kc := 0) (ki := 0) (C := "DeficitNetModel") (T := T_Y) (N := 40) (ci := 5) (v := .ref (ad LY b 23 0)) hx hb hts in_Y hown hK hW okY0 rfl rfl 24 (by decide) t_504 rfl d_Y_arrive_50 ?_
    refine lv_iconst (v := (4 : Int32)) hx hb d_Y_arrive_53 (by decide) ?_
    refine lv_iload_n hx hb d_Y_arrive_54 rfl (lv_at hl 1 rfl) ?_
    refine lv_imul hx hb d_Y_arrive_55 ?_
    refine lv_iconst (v := (1 : Int32)) hx hb d_Y_arrive_56 (by decide) ?_
    refine lv_iadd hx hb d_Y_arrive_57 ?_
    refine lv_dup2_11 hx hb d_Y_arrive_58 rfl rfl ?_
    obtain ⟨j8, ej8, h⟩ := bnd h
    refine q_iald (L := LY) (kc := 23) (ki := 0) hx hb hK hW okY23 rfl ej8 d_Y_arrive_59 ?_
    refine lv_iconst (v := (1 : Int32)) hx hb d_Y_arrive_60 (by decide) ?_
    refine lv_iadd hx hb d_Y_arrive_61 ?_
    obtain ⟨j9, ej9, h⟩ := bnd h
    refine q_iast (L := LY) (kc := 23) (ki := 0) hx hb hK hW hS okY23 (fun _ => rfl) ej9 d_Y_arrive_62 (fun H locs z10 ez10 hW hS => ?_)
    have h := stM_n h ez10
    refine lv_aload_n hx hb d_Y_arrive_63 rfl (lv_at hl 3 rfl) ?_
    refine q_get (L := LY) (kc := 0) (ki := 0) (C := "DeficitNetModel") (T := T_Y) (N := 40) (ci := 5) (v := .ref (ad LY b 27 0)) hx hb hts in_Y hown hK hW okY0 rfl rfl 28 (by decide) t_508 rfl d_Y_arrive_64 ?_
    refine lv_iload_n hx hb d_Y_arrive_67 rfl (lv_at hl 4 rfl) ?_
    obtain ⟨j11, ej11, h⟩ := bnd h
    refine q_zald (L := LY) (kc := 27) (ki := 0) hx hb hK hW okY27 rfl ej11 d_Y_arrive_68 ?_
    refine lv_if_ne (tgt := 118) hx hb d_Y_arrive_69 (by decide) (fun hc => ?_) (fun hc => ?_)
    · have h := ite_f h hc
      refine lv_iload hx hb d_Y_arrive_118 (lv_at hl 0 rfl) ?_
      refine lv_aload_n hx hb d_Y_arrive_120 rfl (lv_at hl 3 rfl) ?_
      refine q_get (L := LY) (kc := 0) (ki := 0) (C := "DeficitNetModel") (T := T_Y) (N := 40) (ci := 5) (v := .ref (ad LY b 16 0)) hx hb hts in_Y hown hK hW okY0 rfl rfl 17 (by decide) t_497 rfl d_Y_arrive_121 ?_
      refine lv_iload_n hx hb d_Y_arrive_124 rfl (lv_at hl 1 rfl) ?_
      obtain ⟨j12, ej12, h⟩ := bnd h
      refine q_iald (L := LY) (kc := 16) (ki := 0) hx hb hK hW okY16 rfl ej12 d_Y_arrive_125 ?_
      refine lv_icmp_le (tgt := 197) hx hb d_Y_arrive_126 (by decide) (fun hc => ?_) (fun hc => ?_)
      · have h := ite_t h hc
        exact q_vret hx hb hr hlk hK hW hS h d_Y_arrive_197
      · have h := ite_f h hc
        refine lv_aload_n hx hb d_Y_arrive_129 rfl (lv_at hl 3 rfl) ?_
        refine q_get (L := LY) (kc := 0) (ki := 0) (C := "DeficitNetModel") (T := T_Y) (N := 40) (ci := 5) (v := .ref (ad LY b 16 0)) hx hb hts in_Y hown hK hW okY0 rfl rfl 17 (by decide) t_497 rfl d_Y_arrive_130 ?_
        refine lv_iload_n hx hb d_Y_arrive_133 rfl (lv_at hl 1 rfl) ?_
        refine lv_iload hx hb d_Y_arrive_134 (lv_at hl 0 rfl) ?_
        obtain ⟨j13, ej13, h⟩ := bnd h
        refine q_iast (L := LY) (kc := 16) (ki := 0) hx hb hK hW hS okY16 (fun _ => rfl) ej13 d_Y_arrive_136 (fun H locs z14 ez14 hW hS => ?_)
        have h := stM_n h ez14
        refine lv_aload_n hx hb d_Y_arrive_137 rfl (lv_at hl 3 rfl) ?_
        refine q_get (L := LY) (kc := 0) (ki := 0) (C := "DeficitNetModel") (T := T_Y) (N := 40) (ci := 5) (v := .ref (ad LY b 17 0)) hx hb hts in_Y hown hK hW okY0 rfl rfl 18 (by decide) t_498 rfl d_Y_arrive_138 ?_
        refine lv_iload_n hx hb d_Y_arrive_141 rfl (lv_at hl 1 rfl) ?_
        refine lv_aload_n hx hb d_Y_arrive_142 rfl (lv_at hl 3 rfl) ?_
        refine q_get (L := LY) (kc := 0) (ki := 0) (C := "DeficitNetModel") (T := T_Y) (N := 40) (ci := 5) (v := .ref (ad LY b 17 0)) hx hb hts in_Y hown hK hW okY0 rfl rfl 18 (by decide) t_498 rfl d_Y_arrive_143 ?_
        refine lv_iload_n hx hb d_Y_arrive_146 rfl (lv_at hl 1 rfl) ?_
        obtain ⟨j15, ej15, h⟩ := bnd h
        refine q_iald (L := LY) (kc := 17) (ki := 0) hx hb hK hW okY17 rfl ej15 d_Y_arrive_147 ?_
        refine lv_iload hx hb d_Y_arrive_148 (lv_at hl 0 rfl) ?_
        refine lv_icmp_ge (tgt := 158) hx hb d_Y_arrive_150 (by decide) (fun hc => ?_) (fun hc => ?_)
        · have h := ite_t h hc
          refine lv_aload_n hx hb d_Y_arrive_158 rfl (lv_at hl 3 rfl) ?_
          refine q_get (L := LY) (kc := 0) (ki := 0) (C := "DeficitNetModel") (T := T_Y) (N := 40) (ci := 5) (v := .ref (ad LY b 17 0)) hx hb hts in_Y hown hK hW okY0 rfl rfl 18 (by decide) t_498 rfl d_Y_arrive_159 ?_
          refine lv_iload_n hx hb d_Y_arrive_162 rfl (lv_at hl 1 rfl) ?_
          obtain ⟨j16, ej16, h⟩ := bnd h
          refine q_iald (L := LY) (kc := 17) (ki := 0) hx hb hK hW okY17 rfl ej16 d_Y_arrive_163 ?_
          obtain ⟨j17, ej17, h⟩ := bnd h
          refine q_iast (L := LY) (kc := 17) (ki := 0) hx hb hK hW hS okY17 (fun _ => rfl) ej17 d_Y_arrive_164 (fun H locs z18 ez18 hW hS => ?_)
          have h := stM_n h ez18
          refine lv_aload_n hx hb d_Y_arrive_165 rfl (lv_at hl 3 rfl) ?_
          refine q_get (L := LY) (kc := 0) (ki := 0) (C := "DeficitNetModel") (T := T_Y) (N := 40) (ci := 5) (v := .ref (ad LY b 21 0)) hx hb hts in_Y hown hK hW okY0 rfl rfl 22 (by decide) t_502 rfl d_Y_arrive_166 ?_
          refine lv_iload_n hx hb d_Y_arrive_169 rfl (lv_at hl 1 rfl) ?_
          refine lv_iconst (v := (-1 : Int32)) hx hb d_Y_arrive_170 (by decide) ?_
          obtain ⟨j19, ej19, h⟩ := bnd h
          refine q_iast (L := LY) (kc := 21) (ki := 0) hx hb hK hW hS okY21 (fun _ => rfl) ej19 d_Y_arrive_171 (fun H locs z20 ez20 hW hS => ?_)
          have h := stM_n h ez20
          refine lv_aload_n hx hb d_Y_arrive_172 rfl (lv_at hl 3 rfl) ?_
          refine q_get (L := LY) (kc := 0) (ki := 0) (C := "DeficitNetModel") (T := T_Y) (N := 40) (ci := 5) (v := .ref (ad LY b 16 0)) hx hb hts in_Y hown hK hW okY0 rfl rfl 17 (by decide) t_497 rfl d_Y_arrive_173 ?_
          refine lv_iload_n hx hb d_Y_arrive_176 rfl (lv_at hl 1 rfl) ?_
          obtain ⟨j21, ej21, h⟩ := bnd h
          refine q_iald (L := LY) (kc := 16) (ki := 0) hx hb hK hW okY16 rfl ej21 d_Y_arrive_177 ?_
          refine lv_aload_n hx hb d_Y_arrive_178 rfl (lv_at hl 3 rfl) ?_
          refine q_get (L := LY) (kc := 0) (ki := 0) (C := "DeficitNetModel") (T := T_Y) (N := 40) (ci := 5) (v := .ref (ad LY b 17 0)) hx hb hts in_Y hown hK hW okY0 rfl rfl 18 (by decide) t_498 rfl d_Y_arrive_179 ?_
          refine lv_iload_n hx hb d_Y_arrive_182 rfl (lv_at hl 1 rfl) ?_
          obtain ⟨j22, ej22, h⟩ := bnd h
          refine q_iald (L := LY) (kc := 17) (ki := 0) hx hb hK hW okY17 rfl ej22 d_Y_arrive_183 ?_
          refine lv_icmp_ge (tgt := 192) hx hb d_Y_arrive_184 (by decide) (fun hc => ?_) (fun hc => ?_)
          · have h := ite_t h hc
            refine lv_aload_n hx hb d_Y_arrive_192 rfl (lv_at hl 3 rfl) ?_
            refine lv_iload_n hx hb d_Y_arrive_193 rfl (lv_at hl 1 rfl) ?_
            obtain ⟨z23, ez23, h⟩ := bnd h
            refine q_callVv (C := "DeficitNetModel") (As := [.int (z3.1 25 0 j4)]) (rest := []) hx hb hml hown hts hK hW hS (c_Y_fill l G b (z3.1 25 0 j4) z20 z23 ez23) f_Y_fill t_673 ⟨rfl, rfl⟩ ⟨Nat.le_of_ble_eq_true rfl, Nat.le_of_ble_eq_true rfl⟩ (q_recv (L := LY) (kc := 0) (ki := 0) hK hW okY0 rfl rfl) rfl hl.1 rfl (Nat.le_of_ble_eq_true rfl) d_Y_arrive_194 (fun H locs hW hS => ?_)
            exact q_vret hx hb hr hlk hK hW hS h d_Y_arrive_197
          · have h := ite_f h hc
            refine lv_aload_n hx hb d_Y_arrive_187 rfl (lv_at hl 3 rfl) ?_
            refine lv_iload_n hx hb d_Y_arrive_188 rfl (lv_at hl 1 rfl) ?_
            obtain ⟨z24, ez24, h⟩ := bnd h
            refine q_callVv (C := "DeficitNetModel") (As := [.int (z3.1 25 0 j4)]) (rest := []) hx hb hml hown hts hK hW hS (c_Y_setTimeout l G b (z3.1 25 0 j4) z20 z24 ez24) f_Y_setTimeout t_677 ⟨rfl, rfl⟩ ⟨Nat.le_of_ble_eq_true rfl, Nat.le_of_ble_eq_true rfl⟩ (q_recv (L := LY) (kc := 0) (ki := 0) hK hW okY0 rfl rfl) rfl hl.1 rfl (Nat.le_of_ble_eq_true rfl) d_Y_arrive_189 (fun H locs hW hS => ?_)
            refine lv_aload_n hx hb d_Y_arrive_192 rfl (lv_at hl 3 rfl) ?_
            refine lv_iload_n hx hb d_Y_arrive_193 rfl (lv_at hl 1 rfl) ?_
            obtain ⟨z25, ez25, h⟩ := bnd h
            refine q_callVv (C := "DeficitNetModel") (As := [.int (z3.1 25 0 j4)]) (rest := []) hx hb hml hown hts hK hW hS (c_Y_fill l G b (z3.1 25 0 j4) z24 z25 ez25) f_Y_fill t_673 ⟨rfl, rfl⟩ ⟨Nat.le_of_ble_eq_true rfl, Nat.le_of_ble_eq_true rfl⟩ (q_recv (L := LY) (kc := 0) (ki := 0) hK hW okY0 rfl rfl) rfl hl.1 rfl (Nat.le_of_ble_eq_true rfl) d_Y_arrive_194 (fun H locs hW hS => ?_)
            exact q_vret hx hb hr hlk hK hW hS h d_Y_arrive_197
        · have h := ite_f h hc
          refine lv_iload hx hb d_Y_arrive_153 (lv_at hl 0 rfl) ?_
          refine lv_goto (tgt := 164) hx hb d_Y_arrive_155 (by decide) ?_
          obtain ⟨j26, ej26, h⟩ := bnd h
          refine q_iast (L := LY) (kc := 17) (ki := 0) hx hb hK hW hS okY17 (fun _ => rfl) ej26 d_Y_arrive_164 (fun H locs z27 ez27 hW hS => ?_)
          have h := stM_n h ez27
          refine lv_aload_n hx hb d_Y_arrive_165 rfl (lv_at hl 3 rfl) ?_
          refine q_get (L := LY) (kc := 0) (ki := 0) (C := "DeficitNetModel") (T := T_Y) (N := 40) (ci := 5) (v := .ref (ad LY b 21 0)) hx hb hts in_Y hown hK hW okY0 rfl rfl 22 (by decide) t_502 rfl d_Y_arrive_166 ?_
          refine lv_iload_n hx hb d_Y_arrive_169 rfl (lv_at hl 1 rfl) ?_
          refine lv_iconst (v := (-1 : Int32)) hx hb d_Y_arrive_170 (by decide) ?_
          obtain ⟨j28, ej28, h⟩ := bnd h
          refine q_iast (L := LY) (kc := 21) (ki := 0) hx hb hK hW hS okY21 (fun _ => rfl) ej28 d_Y_arrive_171 (fun H locs z29 ez29 hW hS => ?_)
          have h := stM_n h ez29
          refine lv_aload_n hx hb d_Y_arrive_172 rfl (lv_at hl 3 rfl) ?_
          refine q_get (L := LY) (kc := 0) (ki := 0) (C := "DeficitNetModel") (T := T_Y) (N := 40) (ci := 5) (v := .ref (ad LY b 16 0)) hx hb hts in_Y hown hK hW okY0 rfl rfl 17 (by decide) t_497 rfl d_Y_arrive_173 ?_
          refine lv_iload_n hx hb d_Y_arrive_176 rfl (lv_at hl 1 rfl) ?_
          obtain ⟨j30, ej30, h⟩ := bnd h
          refine q_iald (L := LY) (kc := 16) (ki := 0) hx hb hK hW okY16 rfl ej30 d_Y_arrive_177 ?_
          refine lv_aload_n hx hb d_Y_arrive_178 rfl (lv_at hl 3 rfl) ?_
          refine q_get (L := LY) (kc := 0) (ki := 0) (C := "DeficitNetModel") (T := T_Y) (N := 40) (ci := 5) (v := .ref (ad LY b 17 0)) hx hb hts in_Y hown hK hW okY0 rfl rfl 18 (by decide) t_498 rfl d_Y_arrive_179 ?_
          refine lv_iload_n hx hb d_Y_arrive_182 rfl (lv_at hl 1 rfl) ?_
          obtain ⟨j31, ej31, h⟩ := bnd h
          refine q_iald (L := LY) (kc := 17) (ki := 0) hx hb hK hW okY17 rfl ej31 d_Y_arrive_183 ?_
          refine lv_icmp_ge (tgt := 192) hx hb d_Y_arrive_184 (by decide) (fun hc => ?_) (fun hc => ?_)
          · have h := ite_t h hc
            refine lv_aload_n hx hb d_Y_arrive_192 rfl (lv_at hl 3 rfl) ?_
            refine lv_iload_n hx hb d_Y_arrive_193 rfl (lv_at hl 1 rfl) ?_
            obtain ⟨z32, ez32, h⟩ := bnd h
            refine q_callVv (C := "DeficitNetModel") (As := [.int (z3.1 25 0 j4)]) (rest := []) hx hb hml hown hts hK hW hS (c_Y_fill l G b (z3.1 25 0 j4) z29 z32 ez32) f_Y_fill t_673 ⟨rfl, rfl⟩ ⟨Nat.le_of_ble_eq_true rfl, Nat.le_of_ble_eq_true rfl⟩ (q_recv (L := LY) (kc := 0) (ki := 0) hK hW okY0 rfl rfl) rfl hl.1 rfl (Nat.le_of_ble_eq_true rfl) d_Y_arrive_194 (fun H locs hW hS => ?_)
            exact q_vret hx hb hr hlk hK hW hS h d_Y_arrive_197
          · have h := ite_f h hc
            refine lv_aload_n hx hb d_Y_arrive_187 rfl (lv_at hl 3 rfl) ?_
            refine lv_iload_n hx hb d_Y_arrive_188 rfl (lv_at hl 1 rfl) ?_
            obtain ⟨z33, ez33, h⟩ := bnd h
            refine q_callVv (C := "DeficitNetModel") (As := [.int (z3.1 25 0 j4)]) (rest := []) hx hb hml hown hts hK hW hS (c_Y_setTimeout l G b (z3.1 25 0 j4) z29 z33 ez33) f_Y_setTimeout t_677 ⟨rfl, rfl⟩ ⟨Nat.le_of_ble_eq_true rfl, Nat.le_of_ble_eq_true rfl⟩ (q_recv (L := LY) (kc := 0) (ki := 0) hK hW okY0 rfl rfl) rfl hl.1 rfl (Nat.le_of_ble_eq_true rfl) d_Y_arrive_189 (fun H locs hW hS => ?_)
            refine lv_aload_n hx hb d_Y_arrive_192 rfl (lv_at hl 3 rfl) ?_
            refine lv_iload_n hx hb d_Y_arrive_193 rfl (lv_at hl 1 rfl) ?_
            obtain ⟨z34, ez34, h⟩ := bnd h
            refine q_callVv (C := "DeficitNetModel") (As := [.int (z3.1 25 0 j4)]) (rest := []) hx hb hml hown hts hK hW hS (c_Y_fill l G b (z3.1 25 0 j4) z33 z34 ez34) f_Y_fill t_673 ⟨rfl, rfl⟩ ⟨Nat.le_of_ble_eq_true rfl, Nat.le_of_ble_eq_true rfl⟩ (q_recv (L := LY) (kc := 0) (ki := 0) hK hW okY0 rfl rfl) rfl hl.1 rfl (Nat.le_of_ble_eq_true rfl) d_Y_arrive_194 (fun H locs hW hS => ?_)
            exact q_vret hx hb hr hlk hK hW hS h d_Y_arrive_197
    · have h := ite_t h hc
      refine lv_aload_n hx hb d_Y_arrive_72 rfl (lv_at hl 3 rfl) ?_
      refine q_get (L := LY) (kc := 0) (ki := 0) (C := "DeficitNetModel") (T := T_Y) (N := 40) (ci := 5) (v := .ref (ad LY b 18 0)) hx hb hts in_Y hown hK hW okY0 rfl rfl 19 (by decide) t_499 rfl d_Y_arrive_73 ?_
      refine lv_iload_n hx hb d_Y_arrive_76 rfl (lv_at hl 1 rfl) ?_
      refine lv_iload hx hb d_Y_arrive_77 (lv_at hl 0 rfl) ?_
      refine lv_aload_n hx hb d_Y_arrive_79 rfl (lv_at hl 3 rfl) ?_
      refine q_get (L := LY) (kc := 0) (ki := 0) (C := "DeficitNetModel") (T := T_Y) (N := 40) (ci := 5) (v := .ref (ad LY b 18 0)) hx hb hts in_Y hown hK hW okY0 rfl rfl 19 (by decide) t_499 rfl d_Y_arrive_80 ?_
      refine lv_iload_n hx hb d_Y_arrive_83 rfl (lv_at hl 1 rfl) ?_
      obtain ⟨j35, ej35, h⟩ := bnd h
      refine q_iald (L := LY) (kc := 18) (ki := 0) hx hb hK hW okY18 rfl ej35 d_Y_arrive_84 ?_
      refine lv_icmp_ne (tgt := 95) hx hb d_Y_arrive_85 (by decide) (fun hc => ?_) (fun hc => ?_)
      · have h := ite_f h hc
        refine lv_aload_n hx hb d_Y_arrive_95 rfl (lv_at hl 3 rfl) ?_
        refine q_get (L := LY) (kc := 0) (ki := 0) (C := "DeficitNetModel") (T := T_Y) (N := 40) (ci := 5) (v := .ref (ad LY b 18 0)) hx hb hts in_Y hown hK hW okY0 rfl rfl 19 (by decide) t_499 rfl d_Y_arrive_96 ?_
        refine lv_iload_n hx hb d_Y_arrive_99 rfl (lv_at hl 1 rfl) ?_
        obtain ⟨j36, ej36, h⟩ := bnd h
        refine q_iald (L := LY) (kc := 18) (ki := 0) hx hb hK hW okY18 rfl ej36 d_Y_arrive_100 ?_
        obtain ⟨j37, ej37, h⟩ := bnd h
        refine q_iast (L := LY) (kc := 18) (ki := 0) hx hb hK hW hS okY18 (fun _ => rfl) ej37 d_Y_arrive_101 (fun H locs z38 ez38 hW hS => ?_)
        have h := stM_n h ez38
        refine lv_aload_n hx hb d_Y_arrive_102 rfl (lv_at hl 3 rfl) ?_
        refine lv_iload_n hx hb d_Y_arrive_103 rfl (lv_at hl 1 rfl) ?_
        refine lv_aload_n hx hb d_Y_arrive_104 rfl (lv_at hl 3 rfl) ?_
        refine q_get (L := LY) (kc := 0) (ki := 0) (C := "DeficitNetModel") (T := T_Y) (N := 40) (ci := 5) (v := .ref (ad LY b 18 0)) hx hb hts in_Y hown hK hW okY0 rfl rfl 19 (by decide) t_499 rfl d_Y_arrive_105 ?_
        refine lv_iload_n hx hb d_Y_arrive_108 rfl (lv_at hl 1 rfl) ?_
        obtain ⟨j39, ej39, h⟩ := bnd h
        refine q_iald (L := LY) (kc := 18) (ki := 0) hx hb hK hW okY18 rfl ej39 d_Y_arrive_109 ?_
        refine lv_iconst (v := (1 : Int32)) hx hb d_Y_arrive_110 (by decide) ?_
        refine lv_iload_n hx hb d_Y_arrive_111 rfl (lv_at hl 2 rfl) ?_
        obtain ⟨z40, ez40, h⟩ := bnd h
        refine q_callVv (C := "DeficitNetModel") (As := [.int (z3.1 25 0 j4), .int (z38.1 18 0 j39), .int (1 : Int32), .int v2]) (rest := []) hx hb hml hown hts hK hW hS (c_Y_make l G b (z3.1 25 0 j4) (z38.1 18 0 j39) (1 : Int32) v2 z38 z40 ez40) f_Y_make t_681 ⟨rfl, rfl⟩ ⟨Nat.le_of_ble_eq_true rfl, Nat.le_of_ble_eq_true rfl⟩ (q_recv (L := LY) (kc := 0) (ki := 0) hK hW okY0 rfl rfl) rfl hl.1 rfl (Nat.le_of_ble_eq_true rfl) d_Y_arrive_112 (fun H locs hW hS => ?_)
        refine lv_goto (tgt := 197) hx hb d_Y_arrive_115 (by decide) ?_
        exact q_vret hx hb hr hlk hK hW hS h d_Y_arrive_197
      · have h := ite_t h hc
        refine lv_iload hx hb d_Y_arrive_88 (lv_at hl 0 rfl) ?_
        refine lv_iconst (v := (1 : Int32)) hx hb d_Y_arrive_90 (by decide) ?_
        refine lv_iadd hx hb d_Y_arrive_91 ?_
        refine lv_goto (tgt := 101) hx hb d_Y_arrive_92 (by decide) ?_
        obtain ⟨j41, ej41, h⟩ := bnd h
        refine q_iast (L := LY) (kc := 18) (ki := 0) hx hb hK hW hS okY18 (fun _ => rfl) ej41 d_Y_arrive_101 (fun H locs z42 ez42 hW hS => ?_)
        have h := stM_n h ez42
        refine lv_aload_n hx hb d_Y_arrive_102 rfl (lv_at hl 3 rfl) ?_
        refine lv_iload_n hx hb d_Y_arrive_103 rfl (lv_at hl 1 rfl) ?_
        refine lv_aload_n hx hb d_Y_arrive_104 rfl (lv_at hl 3 rfl) ?_
        refine q_get (L := LY) (kc := 0) (ki := 0) (C := "DeficitNetModel") (T := T_Y) (N := 40) (ci := 5) (v := .ref (ad LY b 18 0)) hx hb hts in_Y hown hK hW okY0 rfl rfl 19 (by decide) t_499 rfl d_Y_arrive_105 ?_
        refine lv_iload_n hx hb d_Y_arrive_108 rfl (lv_at hl 1 rfl) ?_
        obtain ⟨j43, ej43, h⟩ := bnd h
        refine q_iald (L := LY) (kc := 18) (ki := 0) hx hb hK hW okY18 rfl ej43 d_Y_arrive_109 ?_
        refine lv_iconst (v := (1 : Int32)) hx hb d_Y_arrive_110 (by decide) ?_
        refine lv_iload_n hx hb d_Y_arrive_111 rfl (lv_at hl 2 rfl) ?_
        obtain ⟨z44, ez44, h⟩ := bnd h
        refine q_callVv (C := "DeficitNetModel") (As := [.int (z3.1 25 0 j4), .int (z42.1 18 0 j43), .int (1 : Int32), .int v2]) (rest := []) hx hb hml hown hts hK hW hS (c_Y_make l G b (z3.1 25 0 j4) (z42.1 18 0 j43) (1 : Int32) v2 z42 z44 ez44) f_Y_make t_681 ⟨rfl, rfl⟩ ⟨Nat.le_of_ble_eq_true rfl, Nat.le_of_ble_eq_true rfl⟩ (q_recv (L := LY) (kc := 0) (ki := 0) hK hW okY0 rfl rfl) rfl hl.1 rfl (Nat.le_of_ble_eq_true rfl) d_Y_arrive_112 (fun H locs hW hS => ?_)
        refine lv_goto (tgt := 197) hx hb d_Y_arrive_115 (by decide) ?_
        exact q_vret hx hb hr hlk hK hW hS h d_Y_arrive_197
  · have h := ite_f h hc
    refine lv_aload_n hx hb d_Y_arrive_20 rfl (lv_at hl 1 rfl) ?_
    refine lv_iload_n hx hb d_Y_arrive_21 rfl (lv_at hl 2 rfl) ?_
    refine lv_iload_n hx hb d_Y_arrive_22 rfl (lv_at hl 0 rfl) ?_
    obtain ⟨z45, ez45, h⟩ := bnd h
    refine q_callVv (C := "DeficitNetModel") (As := [.int x1, .int v2]) (rest := []) hx hb hml hown hts hK hW hS (c_Y_put l G b x1 v2 z3 z45 ez45) f_Y_put t_685 ⟨rfl, rfl⟩ ⟨Nat.le_of_ble_eq_true rfl, Nat.le_of_ble_eq_true rfl⟩ (q_recv (L := LY) (kc := 0) (ki := 0) hK hW okY0 rfl rfl) rfl hl.1 rfl (Nat.le_of_ble_eq_true rfl) d_Y_arrive_23 (fun H locs hW hS => ?_)
    exact q_vret hx hb hr hlk hK hW hS h d_Y_arrive_26
