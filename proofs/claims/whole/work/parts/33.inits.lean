def mz : Mem := (fun _ _ _ => 0, fun _ => 0)
def st_P (G : GG) (b : Nat) (o : List Value) (k : Nat) : va_E := match k with
  | 0 => .inr (4, o)
  | 1 => .inl (G.2 0, 8, .inl (fun _ => 0))
  | 2 => .inl (G.2 0, 6, .inl (fun _ => 0))
  | 3 => .inl (G.2 0, 6, .inl (fun _ => 0))
  | _ => .inr (0, [])
theorem st_P_ne {G : GG} {b j : Nat} {o o1 : List Value} (h : j ≠ 0) : st_P G b o1 j = st_P G b o j := by
  unfold st_P
  split
  · exact absurd rfl h
  all_goals rfl
abbrev dv_P : List Value := [.int 0, .int 0, .int 0, .int 0, .int 0, .int 0, .int 0, .int 0, .int 0, .int 0, .int 0, .null, .null, .null]
abbrev rm_P_init : Room := { frames := 1, cells := 3, slots := 20, locals := 40 }
abbrev fv_P (b : Nat) : List Value := [.int 0, .int 0, .int 0, .int 0, .int 0, .int 0, .int 0, .int 0, .int 0, .int 0, .int 0, .ref (b + 1), .ref (b + 2), .ref (b + 3)]
set_option maxHeartbeats 4000000 in
set_option maxRecDepth 100000 in
theorem c_P_init (l : Launch) (G : GG) (b : Nat) : MtI l y_P_init b_P_init 1 rm_P_init G (.inr (4, dv_P)) 4 (fun b => st_P G b (fv_P b)) 3 20 b := by
  refine Met.ofW (cc := b_P_init) (maxL := 1) (ret := none) (by decide) rfl ?_
  intro p e s m args below meth c s₁ B hml hv
  obtain ⟨rfl, hB, hK⟩ := hv
  have hx := B.exec
  have hb := B.bytes
  have hr := B.returns
  have hts : ∀ w ∈ wT, w.before #[.ref b] s = true := fun w hw => atoms_spec (ws := Cond.code y_P_init b_P_init 1 none :: wT) B.pre w (List.mem_cons_of_mem _ hw)
  have hown : s.vm.findClass "DeficitNet$Port" = some m.cls := findClass_of_methodNamed B.named
  have hin : meth.name = "<init>" := (name_of_methodNamed B.named B.method).1
  have hS : va_S (fun q => b ≤ q) s.heap s.heap [] := va_S.rf
  have hl := lv_entry [.ref b] (n := 1) (Nat.le_of_ble_eq_true rfl)
  rw [lg_entry_eq]
  generalize (lg_sl [.ref b] ++ List.replicate (1 - (lg_sl [.ref b]).length) Slot.unset).toArray = ls at hl ⊢
  have hl : lv_has ls 1 [(0, .ref b)] := hl
  refine lv_aload_n hx hb d_P_init_0 rfl (lv_at hl 0 rfl) ?_
  refine W.objInit hx hb hown (hts _ ti_26) (hts _ ti_16) (hts _ ti_17) rfl (by rw [hml]; exact hl.1) rfl d_P_init_1 (Nat.le_of_ble_eq_true rfl) (Nat.le_of_ble_eq_true rfl) ?_
  refine W.eq (g2 := F0 m 4 ls []) rfl ?_
  have hB : Bd G 1 b (st_P G b dv_P) s.heap := hB.congr (fun k hk => by
    have e0 : k = 0 := by omega
    subst e0
    rfl)
  refine lv_aload_n hx hb d_P_init_4 rfl (lv_at hl 0 rfl) ?_
  refine lv_bipush (v := (8 : Int32)) hx hb d_P_init_5 (by decide) ?_
  refine k_newa (atype := .int) (t0 := 0) (N := 8) (a0 := (8, .inl (fun _ => 0))) hx hb (hts _ ti_82) rfl hK hB hS rfl (fun _ => rfl) (by decide) (by decide) (by decide) (Nat.le_of_ble_eq_true rfl) (Nat.le_of_ble_eq_true rfl) d_P_init_7 (fun H hB hS => ?_)
  refine k_putF (C := "DeficitNet$Port") (T := T_P) (N := 14) (ci := 4) (v := .ref (b + 1)) hx hb hts in_P ty_P tyok_P nm_P hown hK hB hS (fun _ h => h) 0 (Nat.le_of_ble_eq_true rfl) rfl rfl 11 (by decide) ti_47 rfl hin rfl rfl rfl (Nat.le_of_ble_eq_true rfl) (cs1 := st_P G b [.int 0, .int 0, .int 0, .int 0, .int 0, .int 0, .int 0, .int 0, .int 0, .int 0, .int 0, .ref (b + 1), .null, .null]) rfl (fun j _ hj => st_P_ne hj) d_P_init_9 (fun H locs hB hS => ?_)
  refine lv_aload_n hx hb d_P_init_12 rfl (lv_at hl 0 rfl) ?_
  refine lv_bipush (v := (6 : Int32)) hx hb d_P_init_13 (by decide) ?_
  refine k_newa (atype := .int) (t0 := 0) (N := 6) (a0 := (6, .inl (fun _ => 0))) hx hb (hts _ ti_82) rfl hK hB hS rfl (fun _ => rfl) (by decide) (by decide) (by decide) (Nat.le_of_ble_eq_true rfl) (Nat.le_of_ble_eq_true rfl) d_P_init_15 (fun H hB hS => ?_)
  refine k_putF (C := "DeficitNet$Port") (T := T_P) (N := 14) (ci := 4) (v := .ref (b + 2)) hx hb hts in_P ty_P tyok_P nm_P hown hK hB hS (fun _ h => h) 0 (Nat.le_of_ble_eq_true rfl) rfl rfl 12 (by decide) ti_49 rfl hin rfl rfl rfl (Nat.le_of_ble_eq_true rfl) (cs1 := st_P G b [.int 0, .int 0, .int 0, .int 0, .int 0, .int 0, .int 0, .int 0, .int 0, .int 0, .int 0, .ref (b + 1), .ref (b + 2), .null]) rfl (fun j _ hj => st_P_ne hj) d_P_init_17 (fun H locs hB hS => ?_)
  refine lv_aload_n hx hb d_P_init_20 rfl (lv_at hl 0 rfl) ?_
  refine lv_bipush (v := (6 : Int32)) hx hb d_P_init_21 (by decide) ?_
  refine k_newa (atype := .int) (t0 := 0) (N := 6) (a0 := (6, .inl (fun _ => 0))) hx hb (hts _ ti_82) rfl hK hB hS rfl (fun _ => rfl) (by decide) (by decide) (by decide) (Nat.le_of_ble_eq_true rfl) (Nat.le_of_ble_eq_true rfl) d_P_init_23 (fun H hB hS => ?_)
  refine k_putF (C := "DeficitNet$Port") (T := T_P) (N := 14) (ci := 4) (v := .ref (b + 3)) hx hb hts in_P ty_P tyok_P nm_P hown hK hB hS (fun _ h => h) 0 (Nat.le_of_ble_eq_true rfl) rfl rfl 13 (by decide) ti_51 rfl hin rfl rfl rfl (Nat.le_of_ble_eq_true rfl) (cs1 := st_P G b [.int 0, .int 0, .int 0, .int 0, .int 0, .int 0, .int 0, .int 0, .int 0, .int 0, .int 0, .ref (b + 1), .ref (b + 2), .ref (b + 3)]) rfl (fun j _ hj => st_P_ne hj) d_P_init_25 (fun H locs hB hS => ?_)
  refine W.widen (k := 3) (n := 20) (Nat.le_of_ble_eq_true rfl) (Nat.le_of_ble_eq_true rfl) ?_
  exact W.vret hx hb hr (fun t ht hWm => ⟨⟨(), rfl, trivial, by rw [ht]; exact hB, va_K.moved hWm.alike hK⟩, hS.F ht⟩) hS.2.2 d_P_init_28
def st_A (G : GG) (b : Nat) (o : List Value) (k : Nat) : va_E := match k with
  | 0 => .inr (1, o)
  | 1 => .inl (G.2 0, 70, .inl (fun _ => 0))
  | 2 => .inl (G.2 0, 70, .inl (fun _ => 0))
  | 3 => .inl (G.2 0, 70, .inl (fun _ => 0))
  | _ => .inr (0, [])
theorem st_A_ne {G : GG} {b j : Nat} {o o1 : List Value} (h : j ≠ 0) : st_A G b o1 j = st_A G b o j := by
  unfold st_A
  split
  · exact absurd rfl h
  all_goals rfl
abbrev dv_A : List Value := [.null, .null, .null, .int 0]
abbrev rm_A_init : Room := { frames := 1, cells := 3, slots := 210, locals := 40 }
abbrev fv_A (b : Nat) : List Value := [.ref (b + 1), .ref (b + 2), .ref (b + 3), .int 0]
set_option maxHeartbeats 4000000 in
set_option maxRecDepth 100000 in
theorem c_A_init (l : Launch) (G : GG) (b : Nat) : MtI l y_A_init b_A_init 1 rm_A_init G (.inr (1, dv_A)) 4 (fun b => st_A G b (fv_A b)) 3 210 b := by
  refine Met.ofW (cc := b_A_init) (maxL := 1) (ret := none) (by decide) rfl ?_
  intro p e s m args below meth c s₁ B hml hv
  obtain ⟨rfl, hB, hK⟩ := hv
  have hx := B.exec
  have hb := B.bytes
  have hr := B.returns
  have hts : ∀ w ∈ wT, w.before #[.ref b] s = true := fun w hw => atoms_spec (ws := Cond.code y_A_init b_A_init 1 none :: wT) B.pre w (List.mem_cons_of_mem _ hw)
  have hown : s.vm.findClass "DeficitNet$Agenda" = some m.cls := findClass_of_methodNamed B.named
  have hin : meth.name = "<init>" := (name_of_methodNamed B.named B.method).1
  have hS : va_S (fun q => b ≤ q) s.heap s.heap [] := va_S.rf
  have hl := lv_entry [.ref b] (n := 1) (Nat.le_of_ble_eq_true rfl)
  rw [lg_entry_eq]
  generalize (lg_sl [.ref b] ++ List.replicate (1 - (lg_sl [.ref b]).length) Slot.unset).toArray = ls at hl ⊢
  have hl : lv_has ls 1 [(0, .ref b)] := hl
  refine lv_aload_n hx hb d_A_init_0 rfl (lv_at hl 0 rfl) ?_
  refine W.objInit hx hb hown (hts _ ti_189) (hts _ ti_16) (hts _ ti_17) rfl (by rw [hml]; exact hl.1) rfl d_A_init_1 (Nat.le_of_ble_eq_true rfl) (Nat.le_of_ble_eq_true rfl) ?_
  refine W.eq (g2 := F0 m 4 ls []) rfl ?_
  have hB : Bd G 1 b (st_A G b dv_A) s.heap := hB.congr (fun k hk => by
    have e0 : k = 0 := by omega
    subst e0
    rfl)
  refine lv_aload_n hx hb d_A_init_4 rfl (lv_at hl 0 rfl) ?_
  refine lv_bipush (v := (70 : Int32)) hx hb d_A_init_5 (by decide) ?_
  refine k_newa (atype := .int) (t0 := 0) (N := 70) (a0 := (70, .inl (fun _ => 0))) hx hb (hts _ ti_82) rfl hK hB hS rfl (fun _ => rfl) (by decide) (by decide) (by decide) (Nat.le_of_ble_eq_true rfl) (Nat.le_of_ble_eq_true rfl) d_A_init_7 (fun H hB hS => ?_)
  refine k_putF (C := "DeficitNet$Agenda") (T := T_A) (N := 4) (ci := 1) (v := .ref (b + 1)) hx hb hts in_A ty_A tyok_A nm_A hown hK hB hS (fun _ h => h) 0 (Nat.le_of_ble_eq_true rfl) rfl rfl 0 (by decide) ti_190 rfl hin rfl rfl rfl (Nat.le_of_ble_eq_true rfl) (cs1 := st_A G b [.ref (b + 1), .null, .null, .int 0]) rfl (fun j _ hj => st_A_ne hj) d_A_init_9 (fun H locs hB hS => ?_)
  refine lv_aload_n hx hb d_A_init_12 rfl (lv_at hl 0 rfl) ?_
  refine lv_bipush (v := (70 : Int32)) hx hb d_A_init_13 (by decide) ?_
  refine k_newa (atype := .int) (t0 := 0) (N := 70) (a0 := (70, .inl (fun _ => 0))) hx hb (hts _ ti_82) rfl hK hB hS rfl (fun _ => rfl) (by decide) (by decide) (by decide) (Nat.le_of_ble_eq_true rfl) (Nat.le_of_ble_eq_true rfl) d_A_init_15 (fun H hB hS => ?_)
  refine k_putF (C := "DeficitNet$Agenda") (T := T_A) (N := 4) (ci := 1) (v := .ref (b + 2)) hx hb hts in_A ty_A tyok_A nm_A hown hK hB hS (fun _ h => h) 0 (Nat.le_of_ble_eq_true rfl) rfl rfl 1 (by decide) ti_192 rfl hin rfl rfl rfl (Nat.le_of_ble_eq_true rfl) (cs1 := st_A G b [.ref (b + 1), .ref (b + 2), .null, .int 0]) rfl (fun j _ hj => st_A_ne hj) d_A_init_17 (fun H locs hB hS => ?_)
  refine lv_aload_n hx hb d_A_init_20 rfl (lv_at hl 0 rfl) ?_
  refine lv_bipush (v := (70 : Int32)) hx hb d_A_init_21 (by decide) ?_
  refine k_newa (atype := .int) (t0 := 0) (N := 70) (a0 := (70, .inl (fun _ => 0))) hx hb (hts _ ti_82) rfl hK hB hS rfl (fun _ => rfl) (by decide) (by decide) (by decide) (Nat.le_of_ble_eq_true rfl) (Nat.le_of_ble_eq_true rfl) d_A_init_23 (fun H hB hS => ?_)
  refine k_putF (C := "DeficitNet$Agenda") (T := T_A) (N := 4) (ci := 1) (v := .ref (b + 3)) hx hb hts in_A ty_A tyok_A nm_A hown hK hB hS (fun _ h => h) 0 (Nat.le_of_ble_eq_true rfl) rfl rfl 2 (by decide) ti_194 rfl hin rfl rfl rfl (Nat.le_of_ble_eq_true rfl) (cs1 := st_A G b [.ref (b + 1), .ref (b + 2), .ref (b + 3), .int 0]) rfl (fun j _ hj => st_A_ne hj) d_A_init_25 (fun H locs hB hS => ?_)
  refine W.widen (k := 3) (n := 210) (Nat.le_of_ble_eq_true rfl) (Nat.le_of_ble_eq_true rfl) ?_
  exact W.vret hx hb hr (fun t ht hWm => ⟨⟨(), rfl, trivial, by rw [ht]; exact hB, va_K.moved hWm.alike hK⟩, hS.F ht⟩) hS.2.2 d_A_init_28
def st_F (G : GG) (b : Nat) (o : List Value) (k : Nat) : va_E := match k with
  | 0 => .inr (2, o)
  | _ => .inr (0, [])
theorem st_F_ne {G : GG} {b j : Nat} {o o1 : List Value} (h : j ≠ 0) : st_F G b o1 j = st_F G b o j := by
  unfold st_F
  split
  · exact absurd rfl h
  all_goals rfl
abbrev dv_F : List Value := [.int 0, .int 0, .int 0, .int 0, .int 0, .int 0, .int 0, .int 0, .int 0, .int 0, .int 0, .int 0, .int 0, .int 0]
abbrev rm_F_init : Room := { frames := 1, cells := 0, slots := 0, locals := 40 }
abbrev fv_F (b : Nat) : List Value := [.int 0, .int 0, .int 0, .int 0, .int 0, .int 0, .int 0, .int 0, .int 0, .int 0, .int 0, .int 0, .int 0, .int 0]
set_option maxHeartbeats 4000000 in
set_option maxRecDepth 100000 in
theorem c_F_init (l : Launch) (G : GG) (b : Nat) : MtI l y_F_init b_F_init 1 rm_F_init G (.inr (2, dv_F)) 1 (fun b => st_F G b (fv_F b)) 0 0 b := by
  refine Met.ofW (cc := b_F_init) (maxL := 1) (ret := none) (by decide) rfl ?_
  intro p e s m args below meth c s₁ B hml hv
  obtain ⟨rfl, hB, hK⟩ := hv
  have hx := B.exec
  have hb := B.bytes
  have hr := B.returns
  have hts : ∀ w ∈ wT, w.before #[.ref b] s = true := fun w hw => atoms_spec (ws := Cond.code y_F_init b_F_init 1 none :: wT) B.pre w (List.mem_cons_of_mem _ hw)
  have hown : s.vm.findClass "DeficitNet$Flow" = some m.cls := findClass_of_methodNamed B.named
  have hin : meth.name = "<init>" := (name_of_methodNamed B.named B.method).1
  have hS : va_S (fun q => b ≤ q) s.heap s.heap [] := va_S.rf
  have hl := lv_entry [.ref b] (n := 1) (Nat.le_of_ble_eq_true rfl)
  rw [lg_entry_eq]
  generalize (lg_sl [.ref b] ++ List.replicate (1 - (lg_sl [.ref b]).length) Slot.unset).toArray = ls at hl ⊢
  have hl : lv_has ls 1 [(0, .ref b)] := hl
  refine lv_aload_n hx hb d_F_init_0 rfl (lv_at hl 0 rfl) ?_
  refine W.objInit hx hb hown (hts _ ti_89) (hts _ ti_16) (hts _ ti_17) rfl (by rw [hml]; exact hl.1) rfl d_F_init_1 (Nat.le_of_ble_eq_true rfl) (Nat.le_of_ble_eq_true rfl) ?_
  refine W.eq (g2 := F0 m 4 ls []) rfl ?_
  have hB : Bd G 1 b (st_F G b dv_F) s.heap := hB.congr (fun k hk => by
    have e0 : k = 0 := by omega
    subst e0
    rfl)
  refine W.widen (k := 0) (n := 0) (Nat.le_of_ble_eq_true rfl) (Nat.le_of_ble_eq_true rfl) ?_
  exact W.vret hx hb hr (fun t ht hWm => ⟨⟨(), rfl, trivial, by rw [ht]; exact hB, va_K.moved hWm.alike hK⟩, hS.F ht⟩) hS.2.2 d_F_init_4
def st_K (G : GG) (b : Nat) (o : List Value) (k : Nat) : va_E := match k with
  | 0 => .inr (3, o)
  | _ => .inr (0, [])
theorem st_K_ne {G : GG} {b j : Nat} {o o1 : List Value} (h : j ≠ 0) : st_K G b o1 j = st_K G b o j := by
  unfold st_K
  split
  · exact absurd rfl h
  all_goals rfl
abbrev dv_K : List Value := [.int 0, .int 0, .int 0, .int 0, .int 0, .int 0, .int 0]
abbrev rm_K_init : Room := { frames := 1, cells := 0, slots := 0, locals := 40 }
abbrev fv_K (b : Nat) : List Value := [.int 0, .int 0, .int 0, .int 0, .int 0, .int 0, .int 0]
set_option maxHeartbeats 4000000 in
set_option maxRecDepth 100000 in
theorem c_K_init (l : Launch) (G : GG) (b : Nat) : MtI l y_K_init b_K_init 1 rm_K_init G (.inr (3, dv_K)) 1 (fun b => st_K G b (fv_K b)) 0 0 b := by
  refine Met.ofW (cc := b_K_init) (maxL := 1) (ret := none) (by decide) rfl ?_
  intro p e s m args below meth c s₁ B hml hv
  obtain ⟨rfl, hB, hK⟩ := hv
  have hx := B.exec
  have hb := B.bytes
  have hr := B.returns
  have hts : ∀ w ∈ wT, w.before #[.ref b] s = true := fun w hw => atoms_spec (ws := Cond.code y_K_init b_K_init 1 none :: wT) B.pre w (List.mem_cons_of_mem _ hw)
  have hown : s.vm.findClass "DeficitNet$Packet" = some m.cls := findClass_of_methodNamed B.named
  have hin : meth.name = "<init>" := (name_of_methodNamed B.named B.method).1
  have hS : va_S (fun q => b ≤ q) s.heap s.heap [] := va_S.rf
  have hl := lv_entry [.ref b] (n := 1) (Nat.le_of_ble_eq_true rfl)
  rw [lg_entry_eq]
  generalize (lg_sl [.ref b] ++ List.replicate (1 - (lg_sl [.ref b]).length) Slot.unset).toArray = ls at hl ⊢
  have hl : lv_has ls 1 [(0, .ref b)] := hl
  refine lv_aload_n hx hb d_K_init_0 rfl (lv_at hl 0 rfl) ?_
  refine W.objInit hx hb hown (hts _ ti_155) (hts _ ti_16) (hts _ ti_17) rfl (by rw [hml]; exact hl.1) rfl d_K_init_1 (Nat.le_of_ble_eq_true rfl) (Nat.le_of_ble_eq_true rfl) ?_
  refine W.eq (g2 := F0 m 4 ls []) rfl ?_
  have hB : Bd G 1 b (st_K G b dv_K) s.heap := hB.congr (fun k hk => by
    have e0 : k = 0 := by omega
    subst e0
    rfl)
  refine W.widen (k := 0) (n := 0) (Nat.le_of_ble_eq_true rfl) (Nat.le_of_ble_eq_true rfl) ?_
  exact W.vret hx hb hr (fun t ht hWm => ⟨⟨(), rfl, trivial, by rw [ht]; exact hB, va_K.moved hWm.alike hK⟩, hS.F ht⟩) hS.2.2 d_K_init_4
