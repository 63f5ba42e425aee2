section KNEW
variable {p : Program} {l : Launch} {e : Env} {R : Room} {s : State} {m : MethodId} {args : Array Value} {below : List Frame} {meth : Method} {c : Code} {H : Heap} {locs : List Loc} {cells slots : Nat} {Q : State → Prop}
variable {cc : ByteArray} {pc : Nat} {ls : Array Slot} {rest st : List Value} {G : GG} {b n : Nat} {cs : Nat → va_E} {A : Nat → Prop} {H0 : Heap}
theorem k_newK (hx : p.tables.exec = Jvm.exec) (hb : c.code = cc) {own C : String} {T : u_T} {N ci index : Nat} (hts : ∀ w ∈ wT, w.before args s = true) (hin : ∀ w ∈ u_ws C T N, w ∈ wT) (ty : Nat → FieldType) (hty : ∀ k, k < N → parseFieldDescriptor (T k).2.2.1 = some (ty k)) (hown : s.vm.findClass own = some m.cls) (hcl : (Cond.classLink own index C).before args s = true) (hinst : (Cond.instantiable C N).before args s = true) (hini : (Cond.initialized C).before args s = true)
    (hK : va_K G.1 cls6 (tysG G) s) (hB : Bd G n b cs H) (hS : va_S A H0 H locs) (hc : cls6[ci]? = some (C, T, N)) {fs : List Value} (hcs : cs n = .inr (ci, fs)) (hfs : ∀ j, j < N → defaultValue (ty j) = vp_V fs j) (hcells : cells + 1 ≤ R.cells) (hslots : slots + N ≤ R.slots) (hdg : decode cc pc = .ok (.new index, 3))
    (kk : ∀ H1 : Heap, Bd G (n + 1) b cs H1 → va_S A H0 H1 locs → (∀ q, q < H.size → H1[q]? = H[q]?) → W p l e R s m args below meth c H1 locs (cells + 1) (slots + N) Q (F0 m (pc + 3) ls (.ref (b + n) :: rest))) : W p l e R s m args below meth c H locs cells slots Q (F0 m pc ls rest) := by
  have hKn := hK.1 ci _ hc
  refine W.newcK hx hb hown hcl hinst hini rfl hdg hcells hslots hKn.2.1 rfl fun H1 kC hkC e1 z1 o1 => ?_
  have k2 := kk H1 (hB.grow z1 o1 (by
    rw [hcs, ← hB.1]
    exact ⟨_, hc, (u_born ty hts hin hKn hkC e1 hty).to hfs⟩)) (S_grow hS (by omega) o1) o1
  rw [← hB.1] at k2
  exact k2
end KNEW
set_option maxHeartbeats 8000000 in
set_option maxRecDepth 100000 in
theorem law_start {p : Program} {e : Env} {s : State} {m : MethodId} {below : List Frame} {meth : Method} {c : Code} (l : Launch) {b L : Nat} {xs : Nat → Int32} {Inv : Nat → MemI → MemI → Prop} (h0 : OKb Inv) (hs : OKs Inv) (hL : L ≤ 3072) (C0 : lw_At p s m meth c b L xs) : W p l e room_1 s m #[Value.ref b] below meth c s.heap [] 0 0 (lw_Z below #[Value.ref b] s) (entryFrame m ([Value.ref b] : List Value).toArray 4) := by
  obtain ⟨hx, hb, hr, hml, hown, htb, hX, hbl, hlk, -⟩ := C0
  have hts : ∀ w ∈ wT, w.before #[Value.ref b] s = true := fun w hw => htb w (wT_tbl hw)
  have hN : xN s := ⟨htb _ nw_19, htb _ nw_21, htb _ nw_84, htb _ nw_150, va_Nw.of rfl (htb _ nw_23), va_Nw.of rfl (htb _ nw_86), va_Nw.of rfl (htb _ nw_152), va_Nw.of rfl (htb _ nw_186)⟩
  obtain ⟨G, hK⟩ := known hts hN
  obtain ⟨a0, r0, hdX, hdY, hI⟩ := h0
  have hown : s.vm.findClass "DeficitNetLaw" = some m.cls := hown
  have hS : va_S (fun q => s.heap.size ≤ q) s.heap s.heap [] := va_S.rf
  have hl := lv_entry [.ref b] (n := 4) (Nat.le_of_ble_eq_true rfl)
  rw [lg_entry_eq]
  generalize (lg_sl [.ref b] ++ List.replicate (4 - (lg_sl [.ref b]).length) Slot.unset).toArray = ls at hl ⊢
  have hl : lv_has ls 4 [(0, .ref b)] := hl
  have hB : Bd G 0 s.heap.size (fun _ => .inr (0, oX0 s.heap.size)) s.heap := ⟨rfl, fun k hk => absurd hk (Nat.not_lt_zero k)⟩
  refine k_new (C := "DeficitNet") (T := T_X) (N := 10) (ci := 0) (fs := oX0 s.heap.size) hx hb hts in_X ty_X tyok_X hown (hts _ ti_10) (hts _ ti_11) (hts _ ti_1) hK hB hS rfl rfl (fun j9 h9 => by rcases (show j9 = 0 ∨ j9 = 1 ∨ j9 = 2 ∨ j9 = 3 ∨ j9 = 4 ∨ j9 = 5 ∨ j9 = 6 ∨ j9 = 7 ∨ j9 = 8 ∨ j9 = 9 by omega) with rfl | rfl | rfl | rfl | rfl | rfl | rfl | rfl | rfl | rfl <;> rfl) (Nat.le_of_ble_eq_true rfl) (Nat.le_of_ble_eq_true rfl) d_L_0 (fun H hB hS => ?_)
  refine lv_dup hx hb d_L_3 rfl ?_
  have hMX := c_X_init l G s.heap.size (EE a0) (by rw [← EE_aZ]; exact i_X_clear hdX)
  refine va_callv (va_runI (n := 0) (As := []) (rest := [.ref s.heap.size]) ⟨hx, hb, hml, hown, hts⟩ hMX (cwI 0 hts (gI ti_14) rfl rfl rfl (hts _ ti_1) (hts _ ti_12) (hts _ ti_13) rfl (by decide +kernel) ⟨Nat.le_of_ble_eq_true rfl, Nat.le_of_ble_eq_true rfl⟩) ⟨fun a U g mk q => ⟨q.1, q.2.1, va_K.moved (u := U) (U := U.calling g mk a) (Vm.Alike.refl U.vm) q.2.2.1, q.2.2.2⟩, fun U hU hWm => ⟨rfl, by rw [hU]; exact hB, va_K.moved hWm.alike hK, xN_warm hWm hN⟩⟩ rfl rfl hl.1 rfl (lv_room (Nat.le_of_ble_eq_true rfl)) d_L_4 ⟨Nat.le_of_ble_eq_true rfl, Nat.le_of_ble_eq_true rfl⟩) hS (fun q _ h => h) (fun q h => h) (fun u t H1 locs1 ht hvm hq hBt hz hk hS => ?_)
  rw [ht] at hBt
  obtain ⟨⟨hWX, hzX⟩, -⟩ := hBt
  refine lv_astore_n hx hb d_L_7 rfl hl (by decide) rfl (fun ls hl => ?_)
  have hB : Bd G 0 H1.size (fun _ => .inr (5, dv_Y)) H1 := ⟨rfl, fun k hk => absurd hk (Nat.not_lt_zero k)⟩
  refine k_newK (C := "DeficitNetModel") (T := T_Y) (N := 40) (ci := 5) (fs := dv_Y) hx hb hts in_Y ty_Y tyok_Y hown (hts _ ti_462) (hts _ ti_463) (hts _ ti_7) hK hB hS rfl rfl (fun j9 h9 => by rcases (show j9 = 0 ∨ j9 = 1 ∨ j9 = 2 ∨ j9 = 3 ∨ j9 = 4 ∨ j9 = 5 ∨ j9 = 6 ∨ j9 = 7 ∨ j9 = 8 ∨ j9 = 9 ∨ j9 = 10 ∨ j9 = 11 ∨ j9 = 12 ∨ j9 = 13 ∨ j9 = 14 ∨ j9 = 15 ∨ j9 = 16 ∨ j9 = 17 ∨ j9 = 18 ∨ j9 = 19 ∨ j9 = 20 ∨ j9 = 21 ∨ j9 = 22 ∨ j9 = 23 ∨ j9 = 24 ∨ j9 = 25 ∨ j9 = 26 ∨ j9 = 27 ∨ j9 = 28 ∨ j9 = 29 ∨ j9 = 30 ∨ j9 = 31 ∨ j9 = 32 ∨ j9 = 33 ∨ j9 = 34 ∨ j9 = 35 ∨ j9 = 36 ∨ j9 = 37 ∨ j9 = 38 ∨ j9 = 39 by omega) with rfl | rfl | rfl | rfl | rfl | rfl | rfl | rfl | rfl | rfl | rfl | rfl | rfl | rfl | rfl | rfl | rfl | rfl | rfl | rfl | rfl | rfl | rfl | rfl | rfl | rfl | rfl | rfl | rfl | rfl | rfl | rfl | rfl | rfl | rfl | rfl | rfl | rfl | rfl | rfl <;> rfl) (Nat.le_of_ble_eq_true rfl) (Nat.le_of_ble_eq_true rfl) d_L_8 (fun H2 hB hS hK2 => ?_)
  refine lv_dup hx hb d_L_11 rfl ?_
  have hMY := c_Y_init l G H1.size (EE r0) (by rw [← EE_aZ]; exact i_Y_clear hdY)
  have hge : s.heap.size + 184 ≤ H1.size := hzX
  have hWX2 : Wd LX G s.heap.size (EE a0) H2 := fun k q hq => by
    have h8 := hWX k q hq
    exact h8.kept (hK2 q.1 h8.lt)
  refine va_callv (va_runI (n := 0) (As := []) (rest := [.ref H1.size]) ⟨hx, hb, hml, hown, hts⟩ hMY (cwI 0 hts (gI ti_466) rfl rfl rfl (hts _ ti_7) (hts _ ti_464) (hts _ ti_465) rfl (by decide +kernel) ⟨Nat.le_of_ble_eq_true rfl, Nat.le_of_ble_eq_true rfl⟩) ⟨fun a U g mk q => ⟨q.1, q.2.1, va_K.moved (u := U) (U := U.calling g mk a) (Vm.Alike.refl U.vm) q.2.2⟩, fun U hU hWm => ⟨rfl, by rw [hU]; exact hB, va_K.moved hWm.alike hK⟩⟩ rfl rfl hl.1 rfl (lv_room (Nat.le_of_ble_eq_true rfl)) d_L_12 ⟨Nat.le_of_ble_eq_true rfl, Nat.le_of_ble_eq_true rfl⟩) hS (fun q _ h => by have h7 : H1.size ≤ q := h; show s.heap.size ≤ q; omega) (fun q h => by have h7 : H1.size ≤ q := h; show s.heap.size ≤ q; omega) (fun u t H3 locs3 ht hvm hq hBt hz hk3 hS => ?_)
  rw [ht] at hBt
  obtain ⟨⟨hWY, -⟩, -⟩ := hBt
  have hWX3 : Wd LX G s.heap.size (EE a0) H3 := fun k q hq => by
    have h8 := hWX2 k q hq
    obtain ⟨h7, h6⟩ := wl_key hq
    refine h8.kept (hk3 q.1 h8.lt ?_)
    rw [h6]
    show ¬ H1.size ≤ s.heap.size + k
    have h5 : k < 184 := h7
    omega
  refine lv_astore_n hx hb d_L_15 rfl hl (by decide) rfl (fun ls hl => ?_)
  refine lv_iconst (v := (0 : Int32)) hx hb d_L_16 (by decide) ?_
  refine lv_istore_n hx hb d_L_17 rfl hl (by decide) rfl (fun ls hl => ?_)
  exact law_loop (l := l) (G := G) (bX := s.heap.size) (bY := H1.size) ⟨hx, hb, hml, hown, hts, hX, hbl, hK, hr, hlk⟩ hL hs (Nat.le_refl _) hge (Nat.le_of_ble_eq_true rfl) (Nat.le_of_ble_eq_true rfl) 513 0 rfl (Nat.zero_le _) a0 r0 H3 locs3 ls hI hWX3 hWY hS (lv_sub hl [0, 1, 2, 3] rfl)
