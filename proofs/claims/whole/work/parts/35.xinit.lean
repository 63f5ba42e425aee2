def stX (G : GG) (b : Nat) (o : List Value) (mp mf mk k : Nat) : va_E := if k = 0 then .inr (0, o) else if k = 10 then .inl (G.2 4, 24, .inr (.inr (.inr (.inr (fun q => if q < mp then some (b + plX 4 q) else none))))) else if k = 107 then .inl (G.2 5, 6, .inr (.inr (.inr (.inr (fun q => if q < mf then some (b + plX 9 q) else none))))) else if k = 114 then .inl (G.2 6, 64, .inr (.inr (.inr (.inr (fun q => if q < mk then some (b + plX 11 q) else none))))) else cellL LX G.2 b mz k
theorem stX_ne {G : GG} {b j mp mf mk : Nat} {o o1 : List Value} (h : j ≠ 0) : stX G b o1 mp mf mk j = stX G b o mp mf mk j := by
  unfold stX
  rw [if_neg h, if_neg h]
theorem stX_in {G : GG} {b j mp mf mk : Nat} {o : List Value} (h0 : j ≠ 0) (h1 : j ≠ 10) (h2 : j ≠ 107) (h3 : j ≠ 114) : stX G b o mp mf mk j = cellL LX G.2 b mz j := by
  unfold stX
  rw [if_neg h0, if_neg h1, if_neg h2, if_neg h3]
theorem stX_10 {G : GG} {b mp mf mk : Nat} {o : List Value} : stX G b o mp mf mk 10 = .inl (G.2 4, 24, .inr (.inr (.inr (.inr (fun q => if q < mp then some (b + plX 4 q) else none))))) := rfl
theorem stX_107 {G : GG} {b mp mf mk : Nat} {o : List Value} : stX G b o mp mf mk 107 = .inl (G.2 5, 6, .inr (.inr (.inr (.inr (fun q => if q < mf then some (b + plX 9 q) else none))))) := rfl
theorem stX_114 {G : GG} {b mp mf mk : Nat} {o : List Value} : stX G b o mp mf mk 114 = .inl (G.2 6, 64, .inr (.inr (.inr (.inr (fun q => if q < mk then some (b + plX 11 q) else none))))) := rfl
theorem none0 (g : Nat → Nat) : (fun q : Nat => if q < 0 then some (g q) else none) = fun _ => (none : Option Nat) := funext fun q => if_neg (Nat.not_lt_zero q)
theorem step1 {g : Nat → Nat} {i v : Nat} (e : v = g i) : ∀ q : Nat, (if q < i + 1 then some (g q) else none) = if q = i then some v else (if q < i then some (g q) else none) := by
  intro q
  by_cases c : q = i
  · rw [if_pos c, if_pos (by omega), c, e]
  · rw [if_neg c]
    by_cases d : q < i
    · rw [if_pos d, if_pos (by omega)]
    · rw [if_neg d, if_neg (by omega)]
theorem tc_port : ∀ i, i < 24 → ∀ j, j < 4 → tcX (11 + 4 * i + j) = 4 + j ∧ tiX (11 + 4 * i + j) = i := by decide +kernel
theorem tc_flow : ∀ i, i < 6 → tcX (108 + i) = 9 ∧ tiX (108 + i) = i := by decide +kernel
theorem tc_pack : ∀ i, i < 64 → tcX (115 + i) = 11 ∧ tiX (115 + i) = i := by decide +kernel
theorem cell_port {G : GG} {b i j mp mf mk : Nat} {o : List Value} (hi : i < 24) (hj : j < 4) : stX G b o mp mf mk (11 + 4 * i + j) = st_P G (b + (11 + 4 * i)) (fv_P (b + (11 + 4 * i))) j := by
  rw [stX_in (by omega) (by omega) (by omega) (by omega)]
  obtain ⟨h1, h2⟩ := tc_port i hi j hj
  show cfX G.2 b (tcX (11 + 4 * i + j)) (tiX (11 + 4 * i + j)) (mz.1 (tcX (11 + 4 * i + j)) (tiX (11 + 4 * i + j))) mz.2 = _
  rw [h1, h2]
  rcases (show j = 0 ∨ j = 1 ∨ j = 2 ∨ j = 3 by omega) with rfl | rfl | rfl | rfl
  · have e1 : b + plX 5 i = b + (11 + 4 * i) + 1 := by show b + (12 + 4 * i) = _; omega
    have e2 : b + plX 6 i = b + (11 + 4 * i) + 2 := by show b + (13 + 4 * i) = _; omega
    have e3 : b + plX 7 i = b + (11 + 4 * i) + 3 := by show b + (14 + 4 * i) = _; omega
    show (Sum.inr (4, [.int 0, .int 0, .int 0, .int 0, .int 0, .int 0, .int 0, .int 0, .int 0, .int 0, .int 0, .ref (b + plX 5 i), .ref (b + plX 6 i), .ref (b + plX 7 i)]) : va_E) = _
    rw [e1, e2, e3]
    rfl
  · rfl
  · rfl
  · rfl
theorem cell_flow {G : GG} {b i mp mf mk : Nat} {o : List Value} (hi : i < 6) : stX G b o mp mf mk (108 + i) = .inr (2, dv_F) := by
  rw [stX_in (by omega) (by omega) (by omega) (by omega)]
  obtain ⟨h1, h2⟩ := tc_flow i hi
  show cfX G.2 b (tcX (108 + i)) (tiX (108 + i)) (mz.1 (tcX (108 + i)) (tiX (108 + i))) mz.2 = _
  rw [h1, h2]
  rfl
theorem cell_pack {G : GG} {b i mp mf mk : Nat} {o : List Value} (hi : i < 64) : stX G b o mp mf mk (115 + i) = .inr (3, dv_K) := by
  rw [stX_in (by omega) (by omega) (by omega) (by omega)]
  obtain ⟨h1, h2⟩ := tc_pack i hi
  show cfX G.2 b (tcX (115 + i)) (tiX (115 + i)) (mz.1 (tcX (115 + i)) (tiX (115 + i))) mz.2 = _
  rw [h1, h2]
  rfl
abbrev oX0 (b : Nat) : List Value := [.null, .null, .null, .null, .null, .null, .int 0, .int 0, .int 0, .int 0]
abbrev oX1 (b : Nat) : List Value := [.ref (b + 1), .null, .null, .null, .null, .null, .int 0, .int 0, .int 0, .int 0]
abbrev oX2 (b : Nat) : List Value := [.ref (b + 1), .ref (b + 10), .null, .null, .null, .null, .int 0, .int 0, .int 0, .int 0]
abbrev oX3 (b : Nat) : List Value := [.ref (b + 1), .ref (b + 10), .ref (b + 107), .null, .null, .null, .int 0, .int 0, .int 0, .int 0]
abbrev oX4 (b : Nat) : List Value := [.ref (b + 1), .ref (b + 10), .ref (b + 107), .ref (b + 114), .null, .null, .int 0, .int 0, .int 0, .int 0]
abbrev oX5 (b : Nat) : List Value := [.ref (b + 1), .ref (b + 10), .ref (b + 107), .ref (b + 114), .ref (b + 179), .null, .int 0, .int 0, .int 0, .int 0]
abbrev oX6 (b : Nat) : List Value := [.ref (b + 1), .ref (b + 10), .ref (b + 107), .ref (b + 114), .ref (b + 179), .ref (b + 183), .int 0, .int 0, .int 0, .int 0]
abbrev rm_X_init : Room := { frames := 3, cells := 183, slots := 1744, locals := 80 }
/-- what the constructor needs beside the good words -/
def xN (U : State) : Prop := aoI U ∧ va_AO "DeficitNet$Port" U ∧ va_AO "DeficitNet$Flow" U ∧ va_AO "DeficitNet$Packet" U ∧ va_Nw (.methodLinkNest "DeficitNet" 20 y_P_init "DeficitNet") U ∧ va_Nw (.methodLinkNest "DeficitNet" 27 y_F_init "DeficitNet") U ∧ va_Nw (.methodLinkNest "DeficitNet" 34 y_K_init "DeficitNet") U ∧ va_Nw (.methodLinkNest "DeficitNet" 37 y_A_init "DeficitNet") U
theorem xN_warm {s U : State} (hW : s.WarmedH U.vm) (h : xN s) : xN U := by
  obtain ⟨h1, h2, h3, h4, h5, h6, h7, h8⟩ := h
  exact ⟨aoI_moved hW.alike h1, va_AO.moved hW.alike h2, va_AO.moved hW.alike h3, va_AO.moved hW.alike h4, va_Nw.warmM hW h5, va_Nw.warmM hW h6, va_Nw.warmM hW h7, va_Nw.warmM hW h8⟩
def CI0 (p : Program) (s : State) (m : MethodId) (args : Array Value) (meth : Method) (c : Code) (G : GG) : Prop :=
  p.tables.exec = Jvm.exec ∧ c.code = b_X_init ∧ c.maxLocals = 2 ∧ s.vm.findClass "DeficitNet" = some m.cls ∧ (∀ w ∈ wT, w.before args s = true) ∧ meth.name = "<init>" ∧ va_K G.1 cls6 (tysG G) s ∧ xN s
set_option maxHeartbeats 4000000 in
set_option maxRecDepth 100000 in
theorem w_X_init_27 {p : Program} {l : Launch} {e : Env} {s : State} {m : MethodId} {args : Array Value} {below : List Frame} {meth : Method} {c : Code} {G : GG} {b : Nat} {Q : State → Prop} (C : CI0 p s m args meth c G)
    (hk : ∀ (H : Heap) (locs : List Loc) (ls : Array Slot), Bd G 107 b (stX G b (oX2 b) 24 0 0) H → va_S (fun q => b ≤ q) s.heap H locs → lv_has ls 2 [(0, .ref b)] → W p l e rm_X_init s m args below meth c H locs 106 912 Q (F0 m 52 ls [])) :
    ∀ (j i : Nat), i + j = 24 → ∀ (H : Heap) (locs : List Loc) (ls : Array Slot), Bd G (11 + 4 * i) b (stX G b (oX2 b) i 0 0) H → va_S (fun q => b ≤ q) s.heap H locs → lv_has ls 2 [(1, .int (Int32.ofInt i)), (0, .ref b)] → W p l e rm_X_init s m args below meth c H locs (10 + 4 * i) (96 + 34 * i) Q (F0 m 27 ls []) := by
  obtain ⟨hx, hb, hml, hown, hts, hin, hK, hn1, hn2, hn3, hn4, hn5, hn6, hn7, hn8⟩ := C
  intro j
  induction j with
  | zero =>
    intro i hi H locs ls hB hS hl
    have ei : i = 24 := by omega
    subst ei
    refine lv_iload_n hx hb d_X_init_27 rfl (lv_at hl 0 rfl) ?_
    refine lv_bipush (v := (24 : Int32)) hx hb d_X_init_28 (by decide) ?_
    refine lv_icmp_ge (tgt := 52) hx hb d_X_init_30 (by decide) (fun hc => ?_) (fun hc => absurd (by decide) hc)
    exact hk H locs ls hB hS (lv_sub hl [1] rfl)
  | succ j ih =>
    intro i hi H locs ls hB hS hl
    have hi2 : i < 24 := by omega
    refine lv_iload_n hx hb d_X_init_27 rfl (lv_at hl 0 rfl) ?_
    refine lv_bipush (v := (24 : Int32)) hx hb d_X_init_28 (by decide) ?_
    refine lv_icmp_ge (tgt := 52) hx hb d_X_init_30 (by decide) (fun hc => ?_) (fun hc => ?_)
    · have h9 := (le_i (x := 24) (y := (i : Int)) (by decide) (by omega) (by decide) rfl).mp hc
      omega
    refine lv_aload_n hx hb d_X_init_33 rfl (lv_at hl 1 rfl) ?_
    refine k_get (C := "DeficitNet") (T := T_X) (N := 10) (ci := 0) (v := .ref (b + 10)) hx hb hts in_X hown hK hB 0 (by omega) rfl rfl 1 (by decide) ti_222 rfl d_X_init_34 ?_
    refine lv_iload_n hx hb d_X_init_37 rfl (lv_at hl 0 rfl) ?_
    have hB : Bd G (11 + 4 * i) b (fun k => if k = 11 + 4 * i then .inr (4, dv_P) else stX G b (oX2 b) i 0 0 k) H := hB.congr (fun k hk9 => if_neg (by omega))
    refine k_new (C := "DeficitNet$Port") (T := T_P) (N := 14) (ci := 4) (fs := dv_P) hx hb hts in_P ty_P tyok_P hown (hts _ ti_20) (hts _ ti_22) (hts _ ti_2) hK hB hS rfl (if_pos rfl) (fun j9 h9 => by rcases (show j9 = 0 ∨ j9 = 1 ∨ j9 = 2 ∨ j9 = 3 ∨ j9 = 4 ∨ j9 = 5 ∨ j9 = 6 ∨ j9 = 7 ∨ j9 = 8 ∨ j9 = 9 ∨ j9 = 10 ∨ j9 = 11 ∨ j9 = 12 ∨ j9 = 13 by omega) with rfl | rfl | rfl | rfl | rfl | rfl | rfl | rfl | rfl | rfl | rfl | rfl | rfl | rfl <;> rfl) (by show 10 + 4 * i + 1 ≤ 183; omega) (by show 96 + 34 * i + 14 ≤ 1744; omega) d_X_init_38 (fun H hB hS => ?_)
    refine lv_dup hx hb d_X_init_41 rfl ?_
    refine k_initN (host := "DeficitNet") (pre := .inr (4, dv_P)) (w := 4) (post := fun b => st_P G b (fv_P b)) hx hb hml hown hts hK hB hS (fun _ h => h) (c_P_init l G (b + (11 + 4 * i))) (if_pos rfl) ti_25 ti_2 ti_24 hn5 (by decide +kernel) rfl ⟨rfl, rfl⟩ ⟨Nat.le_of_ble_eq_true rfl, Nat.le_of_ble_eq_true rfl⟩ ⟨by show 10 + 4 * i + 1 + 3 ≤ 183; omega, by show 96 + 34 * i + 14 + 20 ≤ 1744; omega⟩ hl.1 (Nat.le_of_ble_eq_true rfl) d_X_init_42 (cs1 := stX G b (oX2 b) i 0 0) (fun k hk9 => (if_neg (by omega)).symm) (fun j9 h9 => cell_port hi2 h9) (fun H locs hB hS => ?_)
    have hB : Bd G (11 + 4 * (i + 1)) b (stX G b (oX2 b) i 0 0) H := hB.congr (fun k hk9 => rfl)
    refine k_astq hx hb hK hB hS (fun _ h => h) 10 4 (11 + 4 * i) 4 (by omega) (by omega) stX_10 rfl (cell_port (j := 0) hi2 (by decide)) rfl (aix_i (by decide) (aiz_ok (by omega)) rfl) (step1 (g := fun q => b + plX 4 q) (by show b + (11 + 4 * i) = b + (11 + 4 * i); omega)) (cs1 := stX G b (oX2 b) (i + 1) 0 0) stX_10 (fun k hk9 hk8 => ?_) d_X_init_45 (fun H locs hB hS => ?_)
    · unfold stX
      simp only [if_neg hk8]
    refine lv_iinc (k := 0) (v := Int32.ofInt ((i + 1 : Nat) : Int)) hx hb d_X_init_46 hl rfl (by show Int32.ofInt i + 1 = Int32.ofInt ((i + 1 : Nat) : Int); rw [Int.natCast_succ]; exact hAdd rfl (by decide)) (by decide) rfl (fun ls hl => ?_)
    refine lv_goto (tgt := 27) hx hb d_X_init_49 (by decide) ?_
    refine W.widen (k := 10 + 4 * (i + 1)) (n := 96 + 34 * (i + 1)) (by omega) (by omega) ?_
    exact ih (i + 1) (by omega) H locs ls hB hS hl
set_option maxHeartbeats 4000000 in
set_option maxRecDepth 100000 in
theorem w_X_init_63 {p : Program} {l : Launch} {e : Env} {s : State} {m : MethodId} {args : Array Value} {below : List Frame} {meth : Method} {c : Code} {G : GG} {b : Nat} {Q : State → Prop} (C : CI0 p s m args meth c G)
    (hk : ∀ (H : Heap) (locs : List Loc) (ls : Array Slot), Bd G 114 b (stX G b (oX3 b) 24 6 0) H → va_S (fun q => b ≤ q) s.heap H locs → lv_has ls 2 [(0, .ref b)] → W p l e rm_X_init s m args below meth c H locs 113 1002 Q (F0 m 88 ls [])) :
    ∀ (j i : Nat), i + j = 6 → ∀ (H : Heap) (locs : List Loc) (ls : Array Slot), Bd G (108 + 1 * i) b (stX G b (oX3 b) 24 i 0) H → va_S (fun q => b ≤ q) s.heap H locs → lv_has ls 2 [(1, .int (Int32.ofInt i)), (0, .ref b)] → W p l e rm_X_init s m args below meth c H locs (107 + 1 * i) (918 + 14 * i) Q (F0 m 63 ls []) := by
  obtain ⟨hx, hb, hml, hown, hts, hin, hK, hn1, hn2, hn3, hn4, hn5, hn6, hn7, hn8⟩ := C
  intro j
  induction j with
  | zero =>
    intro i hi H locs ls hB hS hl
    have ei : i = 6 := by omega
    subst ei
    refine lv_iload_n hx hb d_X_init_63 rfl (lv_at hl 0 rfl) ?_
    refine lv_bipush (v := (6 : Int32)) hx hb d_X_init_64 (by decide) ?_
    refine lv_icmp_ge (tgt := 88) hx hb d_X_init_66 (by decide) (fun hc => ?_) (fun hc => absurd (by decide) hc)
    exact hk H locs ls hB hS (lv_sub hl [1] rfl)
  | succ j ih =>
    intro i hi H locs ls hB hS hl
    have hi2 : i < 6 := by omega
    refine lv_iload_n hx hb d_X_init_63 rfl (lv_at hl 0 rfl) ?_
    refine lv_bipush (v := (6 : Int32)) hx hb d_X_init_64 (by decide) ?_
    refine lv_icmp_ge (tgt := 88) hx hb d_X_init_66 (by decide) (fun hc => ?_) (fun hc => ?_)
    · have h9 := (le_i (x := 6) (y := (i : Int)) (by decide) (by omega) (by decide) rfl).mp hc
      omega
    refine lv_aload_n hx hb d_X_init_69 rfl (lv_at hl 1 rfl) ?_
    refine k_get (C := "DeficitNet") (T := T_X) (N := 10) (ci := 0) (v := .ref (b + 107)) hx hb hts in_X hown hK hB 0 (by omega) rfl rfl 2 (by decide) ti_223 rfl d_X_init_70 ?_
    refine lv_iload_n hx hb d_X_init_73 rfl (lv_at hl 0 rfl) ?_
    have hB : Bd G (108 + 1 * i) b (fun k => if k = 108 + 1 * i then .inr (2, dv_F) else stX G b (oX3 b) 24 i 0 k) H := hB.congr (fun k hk9 => if_neg (by omega))
    refine k_new (C := "DeficitNet$Flow") (T := T_F) (N := 14) (ci := 2) (fs := dv_F) hx hb hts in_F ty_F tyok_F hown (hts _ ti_83) (hts _ ti_85) (hts _ ti_3) hK hB hS rfl (if_pos rfl) (fun j9 h9 => by rcases (show j9 = 0 ∨ j9 = 1 ∨ j9 = 2 ∨ j9 = 3 ∨ j9 = 4 ∨ j9 = 5 ∨ j9 = 6 ∨ j9 = 7 ∨ j9 = 8 ∨ j9 = 9 ∨ j9 = 10 ∨ j9 = 11 ∨ j9 = 12 ∨ j9 = 13 by omega) with rfl | rfl | rfl | rfl | rfl | rfl | rfl | rfl | rfl | rfl | rfl | rfl | rfl | rfl <;> rfl) (by show 107 + 1 * i + 1 ≤ 183; omega) (by show 918 + 14 * i + 14 ≤ 1744; omega) d_X_init_74 (fun H hB hS => ?_)
    refine lv_dup hx hb d_X_init_77 rfl ?_
    refine k_initN (host := "DeficitNet") (pre := .inr (2, dv_F)) (w := 1) (post := fun b => st_F G b (fv_F b)) hx hb hml hown hts hK hB hS (fun _ h => h) (c_F_init l G (b + (108 + 1 * i))) (if_pos rfl) ti_88 ti_3 ti_87 hn6 (by decide +kernel) rfl ⟨rfl, rfl⟩ ⟨Nat.le_of_ble_eq_true rfl, Nat.le_of_ble_eq_true rfl⟩ ⟨by show 107 + 1 * i + 1 + 0 ≤ 183; omega, by show 918 + 14 * i + 14 + 0 ≤ 1744; omega⟩ hl.1 (Nat.le_of_ble_eq_true rfl) d_X_init_78 (cs1 := stX G b (oX3 b) 24 i 0) (fun k hk9 => (if_neg (by omega)).symm) (fun j9 h9 => by
      have e9 : j9 = 0 := by omega
      subst e9
      exact cell_flow (by omega)) (fun H locs hB hS => ?_)
    have hB : Bd G (108 + 1 * (i + 1)) b (stX G b (oX3 b) 24 i 0) H := hB.congr (fun k hk9 => rfl)
    refine k_astq hx hb hK hB hS (fun _ h => h) 107 5 (108 + 1 * i) 2 (by omega) (by omega) stX_107 rfl (cell_flow (by omega)) rfl (aix_i (by decide) (aiz_ok (by omega)) rfl) (step1 (g := fun q => b + plX 9 q) (by show b + (108 + 1 * i) = b + (108 + i); omega)) (cs1 := stX G b (oX3 b) 24 (i + 1) 0) stX_107 (fun k hk9 hk8 => ?_) d_X_init_81 (fun H locs hB hS => ?_)
    · unfold stX
      simp only [if_neg hk8]
    refine lv_iinc (k := 0) (v := Int32.ofInt ((i + 1 : Nat) : Int)) hx hb d_X_init_82 hl rfl (by show Int32.ofInt i + 1 = Int32.ofInt ((i + 1 : Nat) : Int); rw [Int.natCast_succ]; exact hAdd rfl (by decide)) (by decide) rfl (fun ls hl => ?_)
    refine lv_goto (tgt := 63) hx hb d_X_init_85 (by decide) ?_
    refine W.widen (k := 107 + 1 * (i + 1)) (n := 918 + 14 * (i + 1)) (by omega) (by omega) ?_
    exact ih (i + 1) (by omega) H locs ls hB hS hl
set_option maxHeartbeats 4000000 in
set_option maxRecDepth 100000 in
theorem w_X_init_99 {p : Program} {l : Launch} {e : Env} {s : State} {m : MethodId} {args : Array Value} {below : List Frame} {meth : Method} {c : Code} {G : GG} {b : Nat} {Q : State → Prop} (C : CI0 p s m args meth c G)
    (hk : ∀ (H : Heap) (locs : List Loc) (ls : Array Slot), Bd G 179 b (stX G b (oX4 b) 24 6 64) H → va_S (fun q => b ≤ q) s.heap H locs → lv_has ls 2 [(0, .ref b)] → W p l e rm_X_init s m args below meth c H locs 178 1514 Q (F0 m 124 ls [])) :
    ∀ (j i : Nat), i + j = 64 → ∀ (H : Heap) (locs : List Loc) (ls : Array Slot), Bd G (115 + 1 * i) b (stX G b (oX4 b) 24 6 i) H → va_S (fun q => b ≤ q) s.heap H locs → lv_has ls 2 [(1, .int (Int32.ofInt i)), (0, .ref b)] → W p l e rm_X_init s m args below meth c H locs (114 + 1 * i) (1066 + 7 * i) Q (F0 m 99 ls []) := by
  obtain ⟨hx, hb, hml, hown, hts, hin, hK, hn1, hn2, hn3, hn4, hn5, hn6, hn7, hn8⟩ := C
  intro j
  induction j with
  | zero =>
    intro i hi H locs ls hB hS hl
    have ei : i = 64 := by omega
    subst ei
    refine lv_iload_n hx hb d_X_init_99 rfl (lv_at hl 0 rfl) ?_
    refine lv_bipush (v := (64 : Int32)) hx hb d_X_init_100 (by decide) ?_
    refine lv_icmp_ge (tgt := 124) hx hb d_X_init_102 (by decide) (fun hc => ?_) (fun hc => absurd (by decide) hc)
    exact hk H locs ls hB hS (lv_sub hl [1] rfl)
  | succ j ih =>
    intro i hi H locs ls hB hS hl
    have hi2 : i < 64 := by omega
    refine lv_iload_n hx hb d_X_init_99 rfl (lv_at hl 0 rfl) ?_
    refine lv_bipush (v := (64 : Int32)) hx hb d_X_init_100 (by decide) ?_
    refine lv_icmp_ge (tgt := 124) hx hb d_X_init_102 (by decide) (fun hc => ?_) (fun hc => ?_)
    · have h9 := (le_i (x := 64) (y := (i : Int)) (by decide) (by omega) (by decide) rfl).mp hc
      omega
    refine lv_aload_n hx hb d_X_init_105 rfl (lv_at hl 1 rfl) ?_
    refine k_get (C := "DeficitNet") (T := T_X) (N := 10) (ci := 0) (v := .ref (b + 114)) hx hb hts in_X hown hK hB 0 (by omega) rfl rfl 3 (by decide) ti_224 rfl d_X_init_106 ?_
    refine lv_iload_n hx hb d_X_init_109 rfl (lv_at hl 0 rfl) ?_
    have hB : Bd G (115 + 1 * i) b (fun k => if k = 115 + 1 * i then .inr (3, dv_K) else stX G b (oX4 b) 24 6 i k) H := hB.congr (fun k hk9 => if_neg (by omega))
    refine k_new (C := "DeficitNet$Packet") (T := T_K) (N := 7) (ci := 3) (fs := dv_K) hx hb hts in_K ty_K tyok_K hown (hts _ ti_149) (hts _ ti_151) (hts _ ti_4) hK hB hS rfl (if_pos rfl) (fun j9 h9 => by rcases (show j9 = 0 ∨ j9 = 1 ∨ j9 = 2 ∨ j9 = 3 ∨ j9 = 4 ∨ j9 = 5 ∨ j9 = 6 by omega) with rfl | rfl | rfl | rfl | rfl | rfl | rfl <;> rfl) (by show 114 + 1 * i + 1 ≤ 183; omega) (by show 1066 + 7 * i + 7 ≤ 1744; omega) d_X_init_110 (fun H hB hS => ?_)
    refine lv_dup hx hb d_X_init_113 rfl ?_
    refine k_initN (host := "DeficitNet") (pre := .inr (3, dv_K)) (w := 1) (post := fun b => st_K G b (fv_K b)) hx hb hml hown hts hK hB hS (fun _ h => h) (c_K_init l G (b + (115 + 1 * i))) (if_pos rfl) ti_154 ti_4 ti_153 hn7 (by decide +kernel) rfl ⟨rfl, rfl⟩ ⟨Nat.le_of_ble_eq_true rfl, Nat.le_of_ble_eq_true rfl⟩ ⟨by show 114 + 1 * i + 1 + 0 ≤ 183; omega, by show 1066 + 7 * i + 7 + 0 ≤ 1744; omega⟩ hl.1 (Nat.le_of_ble_eq_true rfl) d_X_init_114 (cs1 := stX G b (oX4 b) 24 6 i) (fun k hk9 => (if_neg (by omega)).symm) (fun j9 h9 => by
      have e9 : j9 = 0 := by omega
      subst e9
      exact cell_pack (by omega)) (fun H locs hB hS => ?_)
    have hB : Bd G (115 + 1 * (i + 1)) b (stX G b (oX4 b) 24 6 i) H := hB.congr (fun k hk9 => rfl)
    refine k_astq hx hb hK hB hS (fun _ h => h) 114 6 (115 + 1 * i) 3 (by omega) (by omega) stX_114 rfl (cell_pack (by omega)) rfl (aix_i (by decide) (aiz_ok (by omega)) rfl) (step1 (g := fun q => b + plX 11 q) (by show b + (115 + 1 * i) = b + (115 + i); omega)) (cs1 := stX G b (oX4 b) 24 6 (i + 1)) stX_114 (fun k hk9 hk8 => ?_) d_X_init_117 (fun H locs hB hS => ?_)
    · unfold stX
      simp only [if_neg hk8]
    refine lv_iinc (k := 0) (v := Int32.ofInt ((i + 1 : Nat) : Int)) hx hb d_X_init_118 hl rfl (by show Int32.ofInt i + 1 = Int32.ofInt ((i + 1 : Nat) : Int); rw [Int.natCast_succ]; exact hAdd rfl (by decide)) (by decide) rfl (fun ls hl => ?_)
    refine lv_goto (tgt := 99) hx hb d_X_init_121 (by decide) ?_
    refine W.widen (k := 114 + 1 * (i + 1)) (n := 1066 + 7 * (i + 1)) (by omega) (by omega) ?_
    exact ih (i + 1) (by omega) H locs ls hB hS hl
set_option maxHeartbeats 4000000 in
set_option maxRecDepth 100000 in
theorem c_X_init (l : Launch) (G : GG) (b : Nat) (z1 : Mem) (h : dn_X_clear mz = some z1) : Met l y_X_init (Cond.code y_X_init b_X_init 2 none :: wT) rm_X_init (va_Pc [.ref b] (fun U => Bd G 1 b (fun _ => .inr (0, oX0 b)) U.heap ∧ va_K G.1 cls6 (tysG G) U ∧ xN U)) (va_Qv (fun _ : Unit => True) (fun _ U => (Wd LX G b z1 U.heap ∧ b + 184 ≤ U.heap.size) ∧ va_K G.1 cls6 (tysG G) U) (fun q => b ≤ q)) 183 1744 (fun q => b ≤ q) := by
  refine Met.ofW (cc := b_X_init) (maxL := 2) (ret := none) (by decide) rfl ?_
  intro p e s m args below meth c s₁ B hml hv
  obtain ⟨rfl, hB, hK, hN⟩ := hv
  have hx := B.exec
  have hb := B.bytes
  have hr := B.returns
  have hts : ∀ w ∈ wT, w.before #[.ref b] s = true := fun w hw => atoms_spec (ws := Cond.code y_X_init b_X_init 2 none :: wT) B.pre w (List.mem_cons_of_mem _ hw)
  have hown : s.vm.findClass "DeficitNet" = some m.cls := findClass_of_methodNamed B.named
  have hin : meth.name = "<init>" := (name_of_methodNamed B.named B.method).1
  have hS : va_S (fun q => b ≤ q) s.heap s.heap [] := va_S.rf
  have hl := lv_entry [.ref b] (n := 2) (Nat.le_of_ble_eq_true rfl)
  rw [lg_entry_eq]
  generalize (lg_sl [.ref b] ++ List.replicate (2 - (lg_sl [.ref b]).length) Slot.unset).toArray = ls at hl ⊢
  have hl : lv_has ls 2 [(0, .ref b)] := hl
  refine lv_aload_n hx hb d_X_init_0 rfl (lv_at hl 0 rfl) ?_
  refine W.objInit hx hb hown (hts _ ti_15) (hts _ ti_16) (hts _ ti_17) rfl (by rw [hml]; exact hl.1) rfl d_X_init_1 (Nat.le_of_ble_eq_true rfl) (Nat.le_of_ble_eq_true rfl) ?_
  refine W.eq (g2 := F0 m 4 ls []) rfl ?_
  have CC : CI0 p s m #[.ref b] meth c G := ⟨hx, hb, hml, hown, hts, hin, hK, hN⟩
  obtain ⟨hn1, hn2, hn3, hn4, hn5, hn6, hn7, hn8⟩ := hN
  have hB : Bd G 1 b (stX G b (oX0 b) 0 0 0) s.heap := hB.congr (fun k hk => by
    have e0 : k = 0 := by omega
    subst e0
    rfl)
  refine lv_aload_n hx hb d_X_init_4 rfl (lv_at hl 0 rfl) ?_
  refine lv_bipush (v := (8 : Int32)) hx hb d_X_init_5 (by decide) ?_
  refine lv_bipush (v := (8 : Int32)) hx hb d_X_init_7 (by decide) ?_
  refine k_mna (N := 8) (K := 8) (rf := fun q => b + plX 2 q) hx hb hown (hts _ ti_18) hn1 (hts _ ti_82) hK hB hS (by decide) (by decide) (by decide) (by decide) (by decide) (by decide) (by decide) (Nat.le_of_ble_eq_true rfl) (Nat.le_of_ble_eq_true rfl) (fun i => by show b + (2 + i) = b + 1 + 1 + i; omega) rfl (fun i hi => by rcases (show i = 0 ∨ i = 1 ∨ i = 2 ∨ i = 3 ∨ i = 4 ∨ i = 5 ∨ i = 6 ∨ i = 7 by omega) with rfl | rfl | rfl | rfl | rfl | rfl | rfl | rfl <;> rfl) d_X_init_9 (fun H hB hS => ?_)
  refine k_putF (C := "DeficitNet") (T := T_X) (N := 10) (ci := 0) (v := .ref (b + 1)) hx hb hts in_X ty_X tyok_X nm_X hown hK hB hS (fun _ h => h) 0 (Nat.le_of_ble_eq_true rfl) rfl rfl 0 (by decide) ti_221 rfl hin rfl rfl rfl (Nat.le_of_ble_eq_true rfl) (cs1 := stX G b (oX1 b) 0 0 0) rfl (fun j _ hj => stX_ne hj) d_X_init_13 (fun H locs hB hS => ?_)
  refine lv_aload_n hx hb d_X_init_16 rfl (lv_at hl 0 rfl) ?_
  refine lv_bipush (v := (24 : Int32)) hx hb d_X_init_17 (by decide) ?_
  refine k_newq (C := "DeficitNet$Port") (t0 := 4) (N := 24) hx hb hown (hts _ ti_20) hn2 rfl hK hB hS (by show stX G b (oX1 b) 0 0 0 10 = _; rw [stX_10, none0]) (by decide) (by decide) (by decide) (Nat.le_of_ble_eq_true rfl) (Nat.le_of_ble_eq_true rfl) d_X_init_19 (fun H hB hS => ?_)
  refine k_putF (C := "DeficitNet") (T := T_X) (N := 10) (ci := 0) (v := .ref (b + 10)) hx hb hts in_X ty_X tyok_X nm_X hown hK hB hS (fun _ h => h) 0 (Nat.le_of_ble_eq_true rfl) rfl rfl 1 (by decide) ti_222 rfl hin rfl rfl rfl (Nat.le_of_ble_eq_true rfl) (cs1 := stX G b (oX2 b) 0 0 0) rfl (fun j _ hj => stX_ne hj) d_X_init_22 (fun H locs hB hS => ?_)
  refine lv_iconst (v := (0 : Int32)) hx hb d_X_init_25 (by decide) ?_
  refine lv_istore_n hx hb d_X_init_26 rfl hl (by decide) rfl (fun ls hl => ?_)
  refine w_X_init_27 CC (fun H locs ls hB hS hl => ?_) 24 0 rfl H locs ls hB hS hl
  refine lv_aload_n hx hb d_X_init_52 rfl (lv_at hl 0 rfl) ?_
  refine lv_bipush (v := (6 : Int32)) hx hb d_X_init_53 (by decide) ?_
  refine k_newq (C := "DeficitNet$Flow") (t0 := 5) (N := 6) hx hb hown (hts _ ti_83) hn3 rfl hK hB hS (by show stX G b (oX2 b) 24 0 0 107 = _; rw [stX_107, none0]) (by decide) (by decide) (by decide) (Nat.le_of_ble_eq_true rfl) (Nat.le_of_ble_eq_true rfl) d_X_init_55 (fun H hB hS => ?_)
  refine k_putF (C := "DeficitNet") (T := T_X) (N := 10) (ci := 0) (v := .ref (b + 107)) hx hb hts in_X ty_X tyok_X nm_X hown hK hB hS (fun _ h => h) 0 (Nat.le_of_ble_eq_true rfl) rfl rfl 2 (by decide) ti_223 rfl hin rfl rfl rfl (Nat.le_of_ble_eq_true rfl) (cs1 := stX G b (oX3 b) 24 0 0) rfl (fun j _ hj => stX_ne hj) d_X_init_58 (fun H locs hB hS => ?_)
  refine lv_iconst (v := (0 : Int32)) hx hb d_X_init_61 (by decide) ?_
  refine lv_istore_n hx hb d_X_init_62 rfl hl (by decide) rfl (fun ls hl => ?_)
  refine w_X_init_63 CC (fun H locs ls hB hS hl => ?_) 6 0 rfl H locs ls hB hS hl
  refine lv_aload_n hx hb d_X_init_88 rfl (lv_at hl 0 rfl) ?_
  refine lv_bipush (v := (64 : Int32)) hx hb d_X_init_89 (by decide) ?_
  refine k_newq (C := "DeficitNet$Packet") (t0 := 6) (N := 64) hx hb hown (hts _ ti_149) hn4 rfl hK hB hS (by show stX G b (oX3 b) 24 6 0 114 = _; rw [stX_114, none0]) (by decide) (by decide) (by decide) (Nat.le_of_ble_eq_true rfl) (Nat.le_of_ble_eq_true rfl) d_X_init_91 (fun H hB hS => ?_)
  refine k_putF (C := "DeficitNet") (T := T_X) (N := 10) (ci := 0) (v := .ref (b + 114)) hx hb hts in_X ty_X tyok_X nm_X hown hK hB hS (fun _ h => h) 0 (Nat.le_of_ble_eq_true rfl) rfl rfl 3 (by decide) ti_224 rfl hin rfl rfl rfl (Nat.le_of_ble_eq_true rfl) (cs1 := stX G b (oX4 b) 24 6 0) rfl (fun j _ hj => stX_ne hj) d_X_init_94 (fun H locs hB hS => ?_)
  refine lv_iconst (v := (0 : Int32)) hx hb d_X_init_97 (by decide) ?_
  refine lv_istore_n hx hb d_X_init_98 rfl hl (by decide) rfl (fun ls hl => ?_)
  refine w_X_init_99 CC (fun H locs ls hB hS hl => ?_) 64 0 rfl H locs ls hB hS hl
  refine lv_aload_n hx hb d_X_init_124 rfl (lv_at hl 0 rfl) ?_
  have hB : Bd G 179 b (fun k => if k = 179 then .inr (1, dv_A) else stX G b (oX4 b) 24 6 64 k) H := hB.congr (fun k hk9 => if_neg (by omega))
  refine k_new (C := "DeficitNet$Agenda") (T := T_A) (N := 4) (ci := 1) (fs := dv_A) hx hb hts in_A ty_A tyok_A hown (hts _ ti_184) (hts _ ti_185) (hts _ ti_5) hK hB hS rfl rfl (fun j9 h9 => by rcases (show j9 = 0 ∨ j9 = 1 ∨ j9 = 2 ∨ j9 = 3 by omega) with rfl | rfl | rfl | rfl <;> rfl) (Nat.le_of_ble_eq_true rfl) (Nat.le_of_ble_eq_true rfl) d_X_init_125 (fun H hB hS => ?_)
  refine lv_dup hx hb d_X_init_128 rfl ?_
  refine k_initN (host := "DeficitNet") (pre := .inr (1, dv_A)) (w := 4) (post := fun b => st_A G b (fv_A b)) hx hb hml hown hts hK hB hS (fun _ h => h) (c_A_init l G (b + 179)) rfl ti_188 ti_5 ti_187 hn8 (by decide +kernel) rfl ⟨rfl, rfl⟩ ⟨Nat.le_of_ble_eq_true rfl, Nat.le_of_ble_eq_true rfl⟩ ⟨Nat.le_of_ble_eq_true rfl, Nat.le_of_ble_eq_true rfl⟩ hl.1 (Nat.le_of_ble_eq_true rfl) d_X_init_129 (cs1 := stX G b (oX4 b) 24 6 64) (fun k hk9 => (if_neg (by omega)).symm) (fun j9 h9 => by rcases (show j9 = 0 ∨ j9 = 1 ∨ j9 = 2 ∨ j9 = 3 by omega) with rfl | rfl | rfl | rfl <;> rfl) (fun H locs hB hS => ?_)
  refine k_putF (C := "DeficitNet") (T := T_X) (N := 10) (ci := 0) (v := .ref (b + 179)) hx hb hts in_X ty_X tyok_X nm_X hown hK hB hS (fun _ h => h) 0 (Nat.le_of_ble_eq_true rfl) rfl rfl 4 (by decide) ti_225 rfl hin rfl rfl rfl (Nat.le_of_ble_eq_true rfl) (cs1 := stX G b (oX5 b) 24 6 64) rfl (fun j _ hj => stX_ne hj) d_X_init_132 (fun H locs hB hS => ?_)
  refine lv_aload_n hx hb d_X_init_135 rfl (lv_at hl 0 rfl) ?_
  refine lv_bipush (v := (16 : Int32)) hx hb d_X_init_136 (by decide) ?_
  refine k_newa (atype := .long) (t0 := 1) (N := 16) (a0 := (16, .inr (.inl (fun _ => 0)))) hx hb (hts _ ti_252) rfl hK hB hS rfl (fun _ => rfl) (by decide) (by decide) (by decide) (Nat.le_of_ble_eq_true rfl) (Nat.le_of_ble_eq_true rfl) d_X_init_138 (fun H hB hS => ?_)
  refine k_putF (C := "DeficitNet") (T := T_X) (N := 10) (ci := 0) (v := .ref (b + 183)) hx hb hts in_X ty_X tyok_X nm_X hown hK hB hS (fun _ h => h) 0 (Nat.le_of_ble_eq_true rfl) rfl rfl 5 (by decide) ti_226 rfl hin rfl rfl rfl (Nat.le_of_ble_eq_true rfl) (cs1 := stX G b (oX6 b) 24 6 64) rfl (fun j _ hj => stX_ne hj) d_X_init_140 (fun H locs hB hS => ?_)
  have hW : Wd LX G b mz H := fun k q hq => by
    obtain ⟨hk, rfl⟩ := wl_key hq
    have h9 := hB.2 k hk
    by_cases e0 : k = 0
    · subst e0
      exact h9
    by_cases e1 : k = 10
    · subst e1
      exact h9
    by_cases e2 : k = 107
    · subst e2
      exact h9
    by_cases e3 : k = 114
    · subst e3
      exact h9
    rw [stX_in e0 e1 e2 e3] at h9
    exact h9
  have hz := hB.1
  refine lv_aload_n hx hb d_X_init_143 rfl (lv_at hl 0 rfl) ?_
  refine k_callVv (C := "DeficitNet") (As := []) (rest := []) hx hb hml hown hts hK hW hS (fun q hq => hq.1) (c_X_clear l G b mz z1 h) f_X_clear ti_205 ⟨rfl, rfl⟩ ⟨Nat.le_of_ble_eq_true rfl, Nat.le_of_ble_eq_true rfl⟩ ⟨Nat.le_of_ble_eq_true rfl, Nat.le_of_ble_eq_true rfl⟩ (q_recv (L := LX) (kc := 0) (ki := 0) hK hW okX0 rfl rfl) rfl hl.1 rfl (Nat.le_of_ble_eq_true rfl) d_X_init_144 (fun H1 locs hW1 hz1 hk1 hS => ?_)
  refine W.widen (k := 183) (n := 1744) (Nat.le_of_ble_eq_true rfl) (Nat.le_of_ble_eq_true rfl) ?_
  exact W.vret hx hb hr (fun t ht hWm => ⟨⟨(), rfl, trivial, ⟨by rw [ht]; exact hW1, by rw [ht]; omega⟩, va_K.moved hWm.alike hK⟩, hS.F ht⟩) hS.2.2 d_X_init_147
