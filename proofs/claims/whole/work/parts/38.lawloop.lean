theorem cmp_self (x : Int64) : lg_cmp x x = 0 := by
  unfold lg_cmp
  rw [if_neg (fun h => Int64.lt_irrefl h), if_pos rfl]
set_option maxHeartbeats 8000000 in
set_option maxRecDepth 100000 in
theorem law_loop {p : Program} {l : Launch} {e : Env} {s : State} {m : MethodId} {below : List Frame} {meth : Method} {c : Code} {b0 L : Nat} {xs : Nat → Int32} {G : GG} (C : LwC p s m meth c b0 L xs G) (hL : L ≤ 3072) {Inv : Nat → MemI → MemI → Prop} (hs : OKs Inv) {bX bY cells slots : Nat} (hbX : s.heap.size ≤ bX) (hbY : bX + 184 ≤ bY) (hc : cells ≤ 600000) (hsl : slots ≤ 7302250) :
    ∀ (j k : Nat), k + j = 513 → 6 * k ≤ L → ∀ (a r : MemI) (H : Heap) (locs : List Loc) (ls : Array Slot), Inv k a r → Wd LX G bX (EE a) H → Wd LY G bY (EE r) H → va_S (fun q => s.heap.size ≤ q) s.heap H locs → lv_has ls 4 [(3, .int (Int32.ofInt ((6 * k : Nat) : Int))), (2, .ref bY), (1, .ref bX), (0, .ref b0)] →
      W p l e room_1 s m #[Value.ref b0] below meth c H locs cells slots (lw_Z below #[Value.ref b0] s) (F0 m 18 ls []) := by
  obtain ⟨hx, hb, hml, hown, hts, hX, hbl, hK, hr, hlk⟩ := C
  have hbA : ¬ s.heap.size ≤ b0 := by omega
  intro j
  induction j with
  | zero =>
    intro k hk h6
    omega
  | succ j ih =>
    intro k hk h6 a r H locs ls hI hWX hWY hS hl
    refine lv_iload_n hx hb d_L_18 rfl (lv_at hl 0 rfl) ?_
    refine lv_aload_n hx hb d_L_19 rfl (lv_at hl 3 rfl) ?_
    refine va_slen hx hb hX hbl hbA hS d_L_20 ?_
    refine lv_bipush (v := (6 : Int32)) hx hb d_L_21 (by decide) ?_
    refine lv_isub hx hb d_L_23 ?_
    have hle : Int32.ofNat L - 6 = Int32.ofInt ((L : Int) - 6) := hSub (Int32.ofInt_eq_ofNat).symm (by decide)
    refine lv_icmp_gt (tgt := 625) hx hb d_L_24 (by decide) (fun hcmp => ?_) (fun hcmp => ?_)
    · refine va_forget (fun q hq => hS.2.2 q hq) ?_
      refine W.widen (k := 600000) (n := 7302250) hc hsl ?_
      refine lv_iconst (v := (1 : Int32)) hx hb d_L_625 (by decide) ?_
      exact lw_ret hx hb hr hlk d_L_626
    have hlt : ¬ ((L : Int) - 6 < ((6 * k : Nat) : Int)) := fun q => hcmp ((lt_i (x := (L : Int) - 6) (y := ((6 * k : Nat) : Int)) (by omega) (by omega) hle rfl).mpr q)
    have hk6 : 6 * k + 6 ≤ L := by omega
    have fin : ∀ (a r : MemI) (H : Heap) (locs : List Loc), Inv (k + 1) a r → Wd LX G bX (EE a) H → Wd LY G bY (EE r) H → va_S (fun q => s.heap.size ≤ q) s.heap H locs → W p l e room_1 s m #[Value.ref b0] below meth c H locs cells slots (lw_Z below #[Value.ref b0] s) (F0 m 619 ls []) := by
      intro a r H locs hI hWX hWY hS
      refine lv_iinc (k := 0) (v := Int32.ofInt ((6 * (k + 1) : Nat) : Int)) hx hb d_L_619 hl rfl (by rw [show ((6 * (k + 1) : Nat) : Int) = ((6 * k : Nat) : Int) + 6 by omega]; exact hAdd rfl (by decide)) (by decide) rfl (fun ls hl => ?_)
      refine lv_goto (tgt := 18) hx hb d_L_622 (by decide) ?_
      exact ih (k + 1) (by omega) (by omega) a r H locs ls hI hWX hWY hS hl
    refine lv_aload_n hx hb d_L_27 rfl (lv_at hl 3 rfl) ?_
    refine lv_iload_n hx hb d_L_28 rfl (lv_at hl 0 rfl) ?_
    refine k_sld (j := 6 * k) hx hb hX hbl hbA hS (aix_i (by omega) (aiz_at (x := ((6 * k : Nat) : Int)) rfl (by omega)) rfl) d_L_29 ?_
    refine lv_bipush (v := (15 : Int32)) hx hb d_L_30 (by decide) ?_
    refine lv_iand hx hb d_L_32 ?_
    have h15 := and15 (xs (6 * k))
    generalize xs (6 * k) &&& 15 = sw at h15 ⊢
    by_cases hc0 : sw = (0 : Int32)
    · refine lv_tableIn (tgt := 112) hx hb d_L_33 (by rw [hc0]; decide) (by rw [hc0]; decide) (by rw [hc0]; rfl) (by decide) ?_
      obtain ⟨v, a1, r1, hdX, hdY, hI1⟩ := (hs k a r (by omega) hI (xs (6 * k + 1)).toInt (xs (6 * k + 2)).toInt (xs (6 * k + 3)).toInt (xs (6 * k + 4)).toInt (xs (6 * k + 5)).toInt (ir32 _) (ir32 _) (ir32 _) (ir32 _) (ir32 _)).1
      refine lv_aload_n hx hb d_L_112 rfl (lv_at hl 2 rfl) ?_
      refine lv_aload_n hx hb d_L_113 rfl (lv_at hl 3 rfl) ?_
      refine lv_iload_n hx hb d_L_114 rfl (lv_at hl 0 rfl) ?_
      refine lv_iconst (v := (1 : Int32)) hx hb d_L_115 (by decide) ?_
      refine lv_iadd hx hb d_L_116 ?_
      refine k_sld (j := 6 * k + 1) hx hb hX hbl hbA hS (aix_i (by omega) (aiz_at (x := ((6 * k : Nat) : Int) + 1) (by omega) (by omega)) (hAdd rfl (by decide))) d_L_117 ?_
      refine lv_aload_n hx hb d_L_118 rfl (lv_at hl 3 rfl) ?_
      refine lv_iload_n hx hb d_L_119 rfl (lv_at hl 0 rfl) ?_
      refine lv_iconst (v := (2 : Int32)) hx hb d_L_120 (by decide) ?_
      refine lv_iadd hx hb d_L_121 ?_
      refine k_sld (j := 6 * k + 2) hx hb hX hbl hbA hS (aix_i (by omega) (aiz_at (x := ((6 * k : Nat) : Int) + 2) (by omega) (by omega)) (hAdd rfl (by decide))) d_L_122 ?_
      refine lv_aload_n hx hb d_L_123 rfl (lv_at hl 3 rfl) ?_
      refine lv_iload_n hx hb d_L_124 rfl (lv_at hl 0 rfl) ?_
      refine lv_iconst (v := (3 : Int32)) hx hb d_L_125 (by decide) ?_
      refine lv_iadd hx hb d_L_126 ?_
      refine k_sld (j := 6 * k + 3) hx hb hX hbl hbA hS (aix_i (by omega) (aiz_at (x := ((6 * k : Nat) : Int) + 3) (by omega) (by omega)) (hAdd rfl (by decide))) d_L_127 ?_
      refine lv_aload_n hx hb d_L_128 rfl (lv_at hl 3 rfl) ?_
      refine lv_iload_n hx hb d_L_129 rfl (lv_at hl 0 rfl) ?_
      refine lv_iconst (v := (4 : Int32)) hx hb d_L_130 (by decide) ?_
      refine lv_iadd hx hb d_L_131 ?_
      refine k_sld (j := 6 * k + 4) hx hb hX hbl hbA hS (aix_i (by omega) (aiz_at (x := ((6 * k : Nat) : Int) + 4) (by omega) (by omega)) (hAdd rfl (by decide))) d_L_132 ?_
      refine lv_aload_n hx hb d_L_133 rfl (lv_at hl 3 rfl) ?_
      refine lv_iload_n hx hb d_L_134 rfl (lv_at hl 0 rfl) ?_
      refine lv_iconst (v := (5 : Int32)) hx hb d_L_135 (by decide) ?_
      refine lv_iadd hx hb d_L_136 ?_
      refine k_sld (j := 6 * k + 5) hx hb hX hbl hbA hS (aix_i (by omega) (aiz_at (x := ((6 * k : Nat) : Int) + 5) (by omega) (by omega)) (hAdd rfl (by decide))) d_L_137 ?_
      refine k_callVi (C := "DeficitNet") (As := [.int (xs (6 * k + 1)), .int (xs (6 * k + 2)), .int (xs (6 * k + 3)), .int (xs (6 * k + 4)), .int (xs (6 * k + 5))]) (rest := []) hx hb hml hown hts hK hWX hS (fun q hq => (by have := hq.1; omega : s.heap.size ≤ q)) (c_X_link l G bX (xs (6 * k + 1)) (xs (6 * k + 2)) (xs (6 * k + 3)) (xs (6 * k + 4)) (xs (6 * k + 5)) (EE a) (Int32.ofInt v) (EE a1) (i_X_link hdX (rt32 _) (rt32 _) (rt32 _) (rt32 _) (rt32 _))) f_X_link ti_253 ⟨rfl, rfl⟩ ⟨Nat.le_of_ble_eq_true rfl, Nat.le_of_ble_eq_true rfl⟩ ⟨hc, hsl⟩ (q_recv (L := LX) (kc := 0) (ki := 0) hK hWX okX0 rfl rfl) rfl hl.1 rfl (Nat.le_of_ble_eq_true rfl) d_L_138 (fun H locs hWX hz hkq hS => ?_)
      have hWY := hWY.apart hkq (fun q hq => off_X hbY hq)
      refine lv_aload_n hx hb d_L_141 rfl (lv_at hl 1 rfl) ?_
      refine lv_aload_n hx hb d_L_142 rfl (lv_at hl 3 rfl) ?_
      refine lv_iload_n hx hb d_L_143 rfl (lv_at hl 0 rfl) ?_
      refine lv_iconst (v := (1 : Int32)) hx hb d_L_144 (by decide) ?_
      refine lv_iadd hx hb d_L_145 ?_
      refine k_sld (j := 6 * k + 1) hx hb hX hbl hbA hS (aix_i (by omega) (aiz_at (x := ((6 * k : Nat) : Int) + 1) (by omega) (by omega)) (hAdd rfl (by decide))) d_L_146 ?_
      refine lv_aload_n hx hb d_L_147 rfl (lv_at hl 3 rfl) ?_
      refine lv_iload_n hx hb d_L_148 rfl (lv_at hl 0 rfl) ?_
      refine lv_iconst (v := (2 : Int32)) hx hb d_L_149 (by decide) ?_
      refine lv_iadd hx hb d_L_150 ?_
      refine k_sld (j := 6 * k + 2) hx hb hX hbl hbA hS (aix_i (by omega) (aiz_at (x := ((6 * k : Nat) : Int) + 2) (by omega) (by omega)) (hAdd rfl (by decide))) d_L_151 ?_
      refine lv_aload_n hx hb d_L_152 rfl (lv_at hl 3 rfl) ?_
      refine lv_iload_n hx hb d_L_153 rfl (lv_at hl 0 rfl) ?_
      refine lv_iconst (v := (3 : Int32)) hx hb d_L_154 (by decide) ?_
      refine lv_iadd hx hb d_L_155 ?_
      refine k_sld (j := 6 * k + 3) hx hb hX hbl hbA hS (aix_i (by omega) (aiz_at (x := ((6 * k : Nat) : Int) + 3) (by omega) (by omega)) (hAdd rfl (by decide))) d_L_156 ?_
      refine lv_aload_n hx hb d_L_157 rfl (lv_at hl 3 rfl) ?_
      refine lv_iload_n hx hb d_L_158 rfl (lv_at hl 0 rfl) ?_
      refine lv_iconst (v := (4 : Int32)) hx hb d_L_159 (by decide) ?_
      refine lv_iadd hx hb d_L_160 ?_
      refine k_sld (j := 6 * k + 4) hx hb hX hbl hbA hS (aix_i (by omega) (aiz_at (x := ((6 * k : Nat) : Int) + 4) (by omega) (by omega)) (hAdd rfl (by decide))) d_L_161 ?_
      refine lv_aload_n hx hb d_L_162 rfl (lv_at hl 3 rfl) ?_
      refine lv_iload_n hx hb d_L_163 rfl (lv_at hl 0 rfl) ?_
      refine lv_iconst (v := (5 : Int32)) hx hb d_L_164 (by decide) ?_
      refine lv_iadd hx hb d_L_165 ?_
      refine k_sld (j := 6 * k + 5) hx hb hX hbl hbA hS (aix_i (by omega) (aiz_at (x := ((6 * k : Nat) : Int) + 5) (by omega) (by omega)) (hAdd rfl (by decide))) d_L_166 ?_
      refine k_callVi (C := "DeficitNetModel") (As := [.int (xs (6 * k + 1)), .int (xs (6 * k + 2)), .int (xs (6 * k + 3)), .int (xs (6 * k + 4)), .int (xs (6 * k + 5))]) (rest := [.int (Int32.ofInt v)]) hx hb hml hown hts hK hWY hS (fun q hq => (by have := hq.1; omega : s.heap.size ≤ q)) (c_Y_link l G bY (xs (6 * k + 1)) (xs (6 * k + 2)) (xs (6 * k + 3)) (xs (6 * k + 4)) (xs (6 * k + 5)) (EE r) (Int32.ofInt v) (EE r1) (i_Y_link hdY (rt32 _) (rt32 _) (rt32 _) (rt32 _) (rt32 _))) f_Y_link ti_603 ⟨rfl, rfl⟩ ⟨Nat.le_of_ble_eq_true rfl, Nat.le_of_ble_eq_true rfl⟩ ⟨hc, hsl⟩ (q_recv (L := LY) (kc := 0) (ki := 0) hK hWY okY0 rfl rfl) rfl hl.1 rfl (Nat.le_of_ble_eq_true rfl) d_L_167 (fun H locs hWY hz hkq hS => ?_)
      have hWX := hWX.apart hkq (fun q hq => off_Y hbY hq)
      refine lv_icmp_eq (tgt := 619) hx hb d_L_170 (by decide) (fun _ => ?_) (fun hne => absurd rfl hne)
      exact fin a1 r1 H locs hI1 hWX hWY hS
    by_cases hc1 : sw = (1 : Int32)
    · refine lv_tableIn (tgt := 175) hx hb d_L_33 (by rw [hc1]; decide) (by rw [hc1]; decide) (by rw [hc1]; rfl) (by decide) ?_
      obtain ⟨v, a1, r1, hdX, hdY, hI1⟩ := (hs k a r (by omega) hI (xs (6 * k + 1)).toInt (xs (6 * k + 2)).toInt (xs (6 * k + 3)).toInt (xs (6 * k + 4)).toInt (xs (6 * k + 5)).toInt (ir32 _) (ir32 _) (ir32 _) (ir32 _) (ir32 _)).2.1
      refine lv_aload_n hx hb d_L_175 rfl (lv_at hl 2 rfl) ?_
      refine lv_aload_n hx hb d_L_176 rfl (lv_at hl 3 rfl) ?_
      refine lv_iload_n hx hb d_L_177 rfl (lv_at hl 0 rfl) ?_
      refine lv_iconst (v := (1 : Int32)) hx hb d_L_178 (by decide) ?_
      refine lv_iadd hx hb d_L_179 ?_
      refine k_sld (j := 6 * k + 1) hx hb hX hbl hbA hS (aix_i (by omega) (aiz_at (x := ((6 * k : Nat) : Int) + 1) (by omega) (by omega)) (hAdd rfl (by decide))) d_L_180 ?_
      refine lv_aload_n hx hb d_L_181 rfl (lv_at hl 3 rfl) ?_
      refine lv_iload_n hx hb d_L_182 rfl (lv_at hl 0 rfl) ?_
      refine lv_iconst (v := (2 : Int32)) hx hb d_L_183 (by decide) ?_
      refine lv_iadd hx hb d_L_184 ?_
      refine k_sld (j := 6 * k + 2) hx hb hX hbl hbA hS (aix_i (by omega) (aiz_at (x := ((6 * k : Nat) : Int) + 2) (by omega) (by omega)) (hAdd rfl (by decide))) d_L_185 ?_
      refine lv_aload_n hx hb d_L_186 rfl (lv_at hl 3 rfl) ?_
      refine lv_iload_n hx hb d_L_187 rfl (lv_at hl 0 rfl) ?_
      refine lv_iconst (v := (3 : Int32)) hx hb d_L_188 (by decide) ?_
      refine lv_iadd hx hb d_L_189 ?_
      refine k_sld (j := 6 * k + 3) hx hb hX hbl hbA hS (aix_i (by omega) (aiz_at (x := ((6 * k : Nat) : Int) + 3) (by omega) (by omega)) (hAdd rfl (by decide))) d_L_190 ?_
      refine k_callVi (C := "DeficitNet") (As := [.int (xs (6 * k + 1)), .int (xs (6 * k + 2)), .int (xs (6 * k + 3))]) (rest := []) hx hb hml hown hts hK hWX hS (fun q hq => (by have := hq.1; omega : s.heap.size ≤ q)) (c_X_shape l G bX (xs (6 * k + 1)) (xs (6 * k + 2)) (xs (6 * k + 3)) (EE a) (Int32.ofInt v) (EE a1) (i_X_shape hdX (rt32 _) (rt32 _) (rt32 _))) f_X_shape ti_272 ⟨rfl, rfl⟩ ⟨Nat.le_of_ble_eq_true rfl, Nat.le_of_ble_eq_true rfl⟩ ⟨hc, hsl⟩ (q_recv (L := LX) (kc := 0) (ki := 0) hK hWX okX0 rfl rfl) rfl hl.1 rfl (Nat.le_of_ble_eq_true rfl) d_L_191 (fun H locs hWX hz hkq hS => ?_)
      have hWY := hWY.apart hkq (fun q hq => off_X hbY hq)
      refine lv_aload_n hx hb d_L_194 rfl (lv_at hl 1 rfl) ?_
      refine lv_aload_n hx hb d_L_195 rfl (lv_at hl 3 rfl) ?_
      refine lv_iload_n hx hb d_L_196 rfl (lv_at hl 0 rfl) ?_
      refine lv_iconst (v := (1 : Int32)) hx hb d_L_197 (by decide) ?_
      refine lv_iadd hx hb d_L_198 ?_
      refine k_sld (j := 6 * k + 1) hx hb hX hbl hbA hS (aix_i (by omega) (aiz_at (x := ((6 * k : Nat) : Int) + 1) (by omega) (by omega)) (hAdd rfl (by decide))) d_L_199 ?_
      refine lv_aload_n hx hb d_L_200 rfl (lv_at hl 3 rfl) ?_
      refine lv_iload_n hx hb d_L_201 rfl (lv_at hl 0 rfl) ?_
      refine lv_iconst (v := (2 : Int32)) hx hb d_L_202 (by decide) ?_
      refine lv_iadd hx hb d_L_203 ?_
      refine k_sld (j := 6 * k + 2) hx hb hX hbl hbA hS (aix_i (by omega) (aiz_at (x := ((6 * k : Nat) : Int) + 2) (by omega) (by omega)) (hAdd rfl (by decide))) d_L_204 ?_
      refine lv_aload_n hx hb d_L_205 rfl (lv_at hl 3 rfl) ?_
      refine lv_iload_n hx hb d_L_206 rfl (lv_at hl 0 rfl) ?_
      refine lv_iconst (v := (3 : Int32)) hx hb d_L_207 (by decide) ?_
      refine lv_iadd hx hb d_L_208 ?_
      refine k_sld (j := 6 * k + 3) hx hb hX hbl hbA hS (aix_i (by omega) (aiz_at (x := ((6 * k : Nat) : Int) + 3) (by omega) (by omega)) (hAdd rfl (by decide))) d_L_209 ?_
      refine k_callVi (C := "DeficitNetModel") (As := [.int (xs (6 * k + 1)), .int (xs (6 * k + 2)), .int (xs (6 * k + 3))]) (rest := [.int (Int32.ofInt v)]) hx hb hml hown hts hK hWY hS (fun q hq => (by have := hq.1; omega : s.heap.size ≤ q)) (c_Y_shape l G bY (xs (6 * k + 1)) (xs (6 * k + 2)) (xs (6 * k + 3)) (EE r) (Int32.ofInt v) (EE r1) (i_Y_shape hdY (rt32 _) (rt32 _) (rt32 _))) f_Y_shape ti_613 ⟨rfl, rfl⟩ ⟨Nat.le_of_ble_eq_true rfl, Nat.le_of_ble_eq_true rfl⟩ ⟨hc, hsl⟩ (q_recv (L := LY) (kc := 0) (ki := 0) hK hWY okY0 rfl rfl) rfl hl.1 rfl (Nat.le_of_ble_eq_true rfl) d_L_210 (fun H locs hWY hz hkq hS => ?_)
      have hWX := hWX.apart hkq (fun q hq => off_Y hbY hq)
      refine lv_icmp_eq (tgt := 619) hx hb d_L_213 (by decide) (fun _ => ?_) (fun hne => absurd rfl hne)
      exact fin a1 r1 H locs hI1 hWX hWY hS
    by_cases hc2 : sw = (2 : Int32)
    · refine lv_tableIn (tgt := 218) hx hb d_L_33 (by rw [hc2]; decide) (by rw [hc2]; decide) (by rw [hc2]; rfl) (by decide) ?_
      obtain ⟨v, a1, r1, hdX, hdY, hI1⟩ := (hs k a r (by omega) hI (xs (6 * k + 1)).toInt (xs (6 * k + 2)).toInt (xs (6 * k + 3)).toInt (xs (6 * k + 4)).toInt (xs (6 * k + 5)).toInt (ir32 _) (ir32 _) (ir32 _) (ir32 _) (ir32 _)).2.2.1
      refine lv_aload_n hx hb d_L_218 rfl (lv_at hl 2 rfl) ?_
      refine lv_aload_n hx hb d_L_219 rfl (lv_at hl 3 rfl) ?_
      refine lv_iload_n hx hb d_L_220 rfl (lv_at hl 0 rfl) ?_
      refine lv_iconst (v := (1 : Int32)) hx hb d_L_221 (by decide) ?_
      refine lv_iadd hx hb d_L_222 ?_
      refine k_sld (j := 6 * k + 1) hx hb hX hbl hbA hS (aix_i (by omega) (aiz_at (x := ((6 * k : Nat) : Int) + 1) (by omega) (by omega)) (hAdd rfl (by decide))) d_L_223 ?_
      refine lv_aload_n hx hb d_L_224 rfl (lv_at hl 3 rfl) ?_
      refine lv_iload_n hx hb d_L_225 rfl (lv_at hl 0 rfl) ?_
      refine lv_iconst (v := (2 : Int32)) hx hb d_L_226 (by decide) ?_
      refine lv_iadd hx hb d_L_227 ?_
      refine k_sld (j := 6 * k + 2) hx hb hX hbl hbA hS (aix_i (by omega) (aiz_at (x := ((6 * k : Nat) : Int) + 2) (by omega) (by omega)) (hAdd rfl (by decide))) d_L_228 ?_
      refine lv_aload_n hx hb d_L_229 rfl (lv_at hl 3 rfl) ?_
      refine lv_iload_n hx hb d_L_230 rfl (lv_at hl 0 rfl) ?_
      refine lv_iconst (v := (3 : Int32)) hx hb d_L_231 (by decide) ?_
      refine lv_iadd hx hb d_L_232 ?_
      refine k_sld (j := 6 * k + 3) hx hb hX hbl hbA hS (aix_i (by omega) (aiz_at (x := ((6 * k : Nat) : Int) + 3) (by omega) (by omega)) (hAdd rfl (by decide))) d_L_233 ?_
      refine lv_aload_n hx hb d_L_234 rfl (lv_at hl 3 rfl) ?_
      refine lv_iload_n hx hb d_L_235 rfl (lv_at hl 0 rfl) ?_
      refine lv_iconst (v := (4 : Int32)) hx hb d_L_236 (by decide) ?_
      refine lv_iadd hx hb d_L_237 ?_
      refine k_sld (j := 6 * k + 4) hx hb hX hbl hbA hS (aix_i (by omega) (aiz_at (x := ((6 * k : Nat) : Int) + 4) (by omega) (by omega)) (hAdd rfl (by decide))) d_L_238 ?_
      refine k_callVi (C := "DeficitNet") (As := [.int (xs (6 * k + 1)), .int (xs (6 * k + 2)), .int (xs (6 * k + 3)), .int (xs (6 * k + 4))]) (rest := []) hx hb hml hown hts hK hWX hS (fun q hq => (by have := hq.1; omega : s.heap.size ≤ q)) (c_X_flow l G bX (xs (6 * k + 1)) (xs (6 * k + 2)) (xs (6 * k + 3)) (xs (6 * k + 4)) (EE a) (Int32.ofInt v) (EE a1) (i_X_flow hdX (rt32 _) (rt32 _) (rt32 _) (rt32 _))) f_X_flow ti_280 ⟨rfl, rfl⟩ ⟨Nat.le_of_ble_eq_true rfl, Nat.le_of_ble_eq_true rfl⟩ ⟨hc, hsl⟩ (q_recv (L := LX) (kc := 0) (ki := 0) hK hWX okX0 rfl rfl) rfl hl.1 rfl (Nat.le_of_ble_eq_true rfl) d_L_239 (fun H locs hWX hz hkq hS => ?_)
      have hWY := hWY.apart hkq (fun q hq => off_X hbY hq)
      refine lv_aload_n hx hb d_L_242 rfl (lv_at hl 1 rfl) ?_
      refine lv_aload_n hx hb d_L_243 rfl (lv_at hl 3 rfl) ?_
      refine lv_iload_n hx hb d_L_244 rfl (lv_at hl 0 rfl) ?_
      refine lv_iconst (v := (1 : Int32)) hx hb d_L_245 (by decide) ?_
      refine lv_iadd hx hb d_L_246 ?_
      refine k_sld (j := 6 * k + 1) hx hb hX hbl hbA hS (aix_i (by omega) (aiz_at (x := ((6 * k : Nat) : Int) + 1) (by omega) (by omega)) (hAdd rfl (by decide))) d_L_247 ?_
      refine lv_aload_n hx hb d_L_248 rfl (lv_at hl 3 rfl) ?_
      refine lv_iload_n hx hb d_L_249 rfl (lv_at hl 0 rfl) ?_
      refine lv_iconst (v := (2 : Int32)) hx hb d_L_250 (by decide) ?_
      refine lv_iadd hx hb d_L_251 ?_
      refine k_sld (j := 6 * k + 2) hx hb hX hbl hbA hS (aix_i (by omega) (aiz_at (x := ((6 * k : Nat) : Int) + 2) (by omega) (by omega)) (hAdd rfl (by decide))) d_L_252 ?_
      refine lv_aload_n hx hb d_L_253 rfl (lv_at hl 3 rfl) ?_
      refine lv_iload_n hx hb d_L_254 rfl (lv_at hl 0 rfl) ?_
      refine lv_iconst (v := (3 : Int32)) hx hb d_L_255 (by decide) ?_
      refine lv_iadd hx hb d_L_256 ?_
      refine k_sld (j := 6 * k + 3) hx hb hX hbl hbA hS (aix_i (by omega) (aiz_at (x := ((6 * k : Nat) : Int) + 3) (by omega) (by omega)) (hAdd rfl (by decide))) d_L_257 ?_
      refine lv_aload_n hx hb d_L_258 rfl (lv_at hl 3 rfl) ?_
      refine lv_iload_n hx hb d_L_259 rfl (lv_at hl 0 rfl) ?_
      refine lv_iconst (v := (4 : Int32)) hx hb d_L_260 (by decide) ?_
      refine lv_iadd hx hb d_L_261 ?_
      refine k_sld (j := 6 * k + 4) hx hb hX hbl hbA hS (aix_i (by omega) (aiz_at (x := ((6 * k : Nat) : Int) + 4) (by omega) (by omega)) (hAdd rfl (by decide))) d_L_262 ?_
      refine k_callVi (C := "DeficitNetModel") (As := [.int (xs (6 * k + 1)), .int (xs (6 * k + 2)), .int (xs (6 * k + 3)), .int (xs (6 * k + 4))]) (rest := [.int (Int32.ofInt v)]) hx hb hml hown hts hK hWY hS (fun q hq => (by have := hq.1; omega : s.heap.size ≤ q)) (c_Y_flow l G bY (xs (6 * k + 1)) (xs (6 * k + 2)) (xs (6 * k + 3)) (xs (6 * k + 4)) (EE r) (Int32.ofInt v) (EE r1) (i_Y_flow hdY (rt32 _) (rt32 _) (rt32 _) (rt32 _))) f_Y_flow ti_621 ⟨rfl, rfl⟩ ⟨Nat.le_of_ble_eq_true rfl, Nat.le_of_ble_eq_true rfl⟩ ⟨hc, hsl⟩ (q_recv (L := LY) (kc := 0) (ki := 0) hK hWY okY0 rfl rfl) rfl hl.1 rfl (Nat.le_of_ble_eq_true rfl) d_L_263 (fun H locs hWY hz hkq hS => ?_)
      have hWX := hWX.apart hkq (fun q hq => off_Y hbY hq)
      refine lv_icmp_eq (tgt := 619) hx hb d_L_266 (by decide) (fun _ => ?_) (fun hne => absurd rfl hne)
      exact fin a1 r1 H locs hI1 hWX hWY hS
    by_cases hc3 : sw = (3 : Int32)
    · refine lv_tableIn (tgt := 271) hx hb d_L_33 (by rw [hc3]; decide) (by rw [hc3]; decide) (by rw [hc3]; rfl) (by decide) ?_
      obtain ⟨v, a1, r1, hdX, hdY, hI1⟩ := (hs k a r (by omega) hI (xs (6 * k + 1)).toInt (xs (6 * k + 2)).toInt (xs (6 * k + 3)).toInt (xs (6 * k + 4)).toInt (xs (6 * k + 5)).toInt (ir32 _) (ir32 _) (ir32 _) (ir32 _) (ir32 _)).2.2.2.1
      refine lv_aload_n hx hb d_L_271 rfl (lv_at hl 2 rfl) ?_
      refine lv_aload_n hx hb d_L_272 rfl (lv_at hl 3 rfl) ?_
      refine lv_iload_n hx hb d_L_273 rfl (lv_at hl 0 rfl) ?_
      refine lv_iconst (v := (1 : Int32)) hx hb d_L_274 (by decide) ?_
      refine lv_iadd hx hb d_L_275 ?_
      refine k_sld (j := 6 * k + 1) hx hb hX hbl hbA hS (aix_i (by omega) (aiz_at (x := ((6 * k : Nat) : Int) + 1) (by omega) (by omega)) (hAdd rfl (by decide))) d_L_276 ?_
      refine lv_aload_n hx hb d_L_277 rfl (lv_at hl 3 rfl) ?_
      refine lv_iload_n hx hb d_L_278 rfl (lv_at hl 0 rfl) ?_
      refine lv_iconst (v := (2 : Int32)) hx hb d_L_279 (by decide) ?_
      refine lv_iadd hx hb d_L_280 ?_
      refine k_sld (j := 6 * k + 2) hx hb hX hbl hbA hS (aix_i (by omega) (aiz_at (x := ((6 * k : Nat) : Int) + 2) (by omega) (by omega)) (hAdd rfl (by decide))) d_L_281 ?_
      refine lv_aload_n hx hb d_L_282 rfl (lv_at hl 3 rfl) ?_
      refine lv_iload_n hx hb d_L_283 rfl (lv_at hl 0 rfl) ?_
      refine lv_iconst (v := (3 : Int32)) hx hb d_L_284 (by decide) ?_
      refine lv_iadd hx hb d_L_285 ?_
      refine k_sld (j := 6 * k + 3) hx hb hX hbl hbA hS (aix_i (by omega) (aiz_at (x := ((6 * k : Nat) : Int) + 3) (by omega) (by omega)) (hAdd rfl (by decide))) d_L_286 ?_
      refine lv_aload_n hx hb d_L_287 rfl (lv_at hl 3 rfl) ?_
      refine lv_iload_n hx hb d_L_288 rfl (lv_at hl 0 rfl) ?_
      refine lv_iconst (v := (4 : Int32)) hx hb d_L_289 (by decide) ?_
      refine lv_iadd hx hb d_L_290 ?_
      refine k_sld (j := 6 * k + 4) hx hb hX hbl hbA hS (aix_i (by omega) (aiz_at (x := ((6 * k : Nat) : Int) + 4) (by omega) (by omega)) (hAdd rfl (by decide))) d_L_291 ?_
      refine k_callVi (C := "DeficitNet") (As := [.int (xs (6 * k + 1)), .int (xs (6 * k + 2)), .int (xs (6 * k + 3)), .int (xs (6 * k + 4))]) (rest := []) hx hb hml hown hts hK hWX hS (fun q hq => (by have := hq.1; omega : s.heap.size ≤ q)) (c_X_tune l G bX (xs (6 * k + 1)) (xs (6 * k + 2)) (xs (6 * k + 3)) (xs (6 * k + 4)) (EE a) (Int32.ofInt v) (EE a1) (i_X_tune hdX (rt32 _) (rt32 _) (rt32 _) (rt32 _))) f_X_tune ti_288 ⟨rfl, rfl⟩ ⟨Nat.le_of_ble_eq_true rfl, Nat.le_of_ble_eq_true rfl⟩ ⟨hc, hsl⟩ (q_recv (L := LX) (kc := 0) (ki := 0) hK hWX okX0 rfl rfl) rfl hl.1 rfl (Nat.le_of_ble_eq_true rfl) d_L_292 (fun H locs hWX hz hkq hS => ?_)
      have hWY := hWY.apart hkq (fun q hq => off_X hbY hq)
      refine lv_aload_n hx hb d_L_295 rfl (lv_at hl 1 rfl) ?_
      refine lv_aload_n hx hb d_L_296 rfl (lv_at hl 3 rfl) ?_
      refine lv_iload_n hx hb d_L_297 rfl (lv_at hl 0 rfl) ?_
      refine lv_iconst (v := (1 : Int32)) hx hb d_L_298 (by decide) ?_
      refine lv_iadd hx hb d_L_299 ?_
      refine k_sld (j := 6 * k + 1) hx hb hX hbl hbA hS (aix_i (by omega) (aiz_at (x := ((6 * k : Nat) : Int) + 1) (by omega) (by omega)) (hAdd rfl (by decide))) d_L_300 ?_
      refine lv_aload_n hx hb d_L_301 rfl (lv_at hl 3 rfl) ?_
      refine lv_iload_n hx hb d_L_302 rfl (lv_at hl 0 rfl) ?_
      refine lv_iconst (v := (2 : Int32)) hx hb d_L_303 (by decide) ?_
      refine lv_iadd hx hb d_L_304 ?_
      refine k_sld (j := 6 * k + 2) hx hb hX hbl hbA hS (aix_i (by omega) (aiz_at (x := ((6 * k : Nat) : Int) + 2) (by omega) (by omega)) (hAdd rfl (by decide))) d_L_305 ?_
      refine lv_aload_n hx hb d_L_306 rfl (lv_at hl 3 rfl) ?_
      refine lv_iload_n hx hb d_L_307 rfl (lv_at hl 0 rfl) ?_
      refine lv_iconst (v := (3 : Int32)) hx hb d_L_308 (by decide) ?_
      refine lv_iadd hx hb d_L_309 ?_
      refine k_sld (j := 6 * k + 3) hx hb hX hbl hbA hS (aix_i (by omega) (aiz_at (x := ((6 * k : Nat) : Int) + 3) (by omega) (by omega)) (hAdd rfl (by decide))) d_L_310 ?_
      refine lv_aload_n hx hb d_L_311 rfl (lv_at hl 3 rfl) ?_
      refine lv_iload_n hx hb d_L_312 rfl (lv_at hl 0 rfl) ?_
      refine lv_iconst (v := (4 : Int32)) hx hb d_L_313 (by decide) ?_
      refine lv_iadd hx hb d_L_314 ?_
      refine k_sld (j := 6 * k + 4) hx hb hX hbl hbA hS (aix_i (by omega) (aiz_at (x := ((6 * k : Nat) : Int) + 4) (by omega) (by omega)) (hAdd rfl (by decide))) d_L_315 ?_
      refine k_callVi (C := "DeficitNetModel") (As := [.int (xs (6 * k + 1)), .int (xs (6 * k + 2)), .int (xs (6 * k + 3)), .int (xs (6 * k + 4))]) (rest := [.int (Int32.ofInt v)]) hx hb hml hown hts hK hWY hS (fun q hq => (by have := hq.1; omega : s.heap.size ≤ q)) (c_Y_tune l G bY (xs (6 * k + 1)) (xs (6 * k + 2)) (xs (6 * k + 3)) (xs (6 * k + 4)) (EE r) (Int32.ofInt v) (EE r1) (i_Y_tune hdY (rt32 _) (rt32 _) (rt32 _) (rt32 _))) f_Y_tune ti_625 ⟨rfl, rfl⟩ ⟨Nat.le_of_ble_eq_true rfl, Nat.le_of_ble_eq_true rfl⟩ ⟨hc, hsl⟩ (q_recv (L := LY) (kc := 0) (ki := 0) hK hWY okY0 rfl rfl) rfl hl.1 rfl (Nat.le_of_ble_eq_true rfl) d_L_316 (fun H locs hWY hz hkq hS => ?_)
      have hWX := hWX.apart hkq (fun q hq => off_Y hbY hq)
      refine lv_icmp_eq (tgt := 619) hx hb d_L_319 (by decide) (fun _ => ?_) (fun hne => absurd rfl hne)
      exact fin a1 r1 H locs hI1 hWX hWY hS
    by_cases hc4 : sw = (4 : Int32)
    · refine lv_tableIn (tgt := 324) hx hb d_L_33 (by rw [hc4]; decide) (by rw [hc4]; decide) (by rw [hc4]; rfl) (by decide) ?_
      obtain ⟨a1, r1, hdX, hdY, hI1⟩ := (hs k a r (by omega) hI (xs (6 * k + 1)).toInt (xs (6 * k + 2)).toInt (xs (6 * k + 3)).toInt (xs (6 * k + 4)).toInt (xs (6 * k + 5)).toInt (ir32 _) (ir32 _) (ir32 _) (ir32 _) (ir32 _)).2.2.2.2.1
      refine lv_aload_n hx hb d_L_324 rfl (lv_at hl 2 rfl) ?_
      refine k_callVv (C := "DeficitNet") (As := []) (rest := []) hx hb hml hown hts hK hWX hS (fun q hq => (by have := hq.1; omega : s.heap.size ≤ q)) (c_X_clear l G bX (EE a) (EE a1) (i_X_clear hdX )) f_X_clear ti_296 ⟨rfl, rfl⟩ ⟨Nat.le_of_ble_eq_true rfl, Nat.le_of_ble_eq_true rfl⟩ ⟨hc, hsl⟩ (q_recv (L := LX) (kc := 0) (ki := 0) hK hWX okX0 rfl rfl) rfl hl.1 rfl (Nat.le_of_ble_eq_true rfl) d_L_325 (fun H locs hWX hz hkq hS => ?_)
      have hWY := hWY.apart hkq (fun q hq => off_X hbY hq)
      refine lv_aload_n hx hb d_L_328 rfl (lv_at hl 1 rfl) ?_
      refine k_callVv (C := "DeficitNetModel") (As := []) (rest := []) hx hb hml hown hts hK hWY hS (fun q hq => (by have := hq.1; omega : s.heap.size ≤ q)) (c_Y_clear l G bY (EE r) (EE r1) (i_Y_clear hdY )) f_Y_clear ti_602 ⟨rfl, rfl⟩ ⟨Nat.le_of_ble_eq_true rfl, Nat.le_of_ble_eq_true rfl⟩ ⟨hc, hsl⟩ (q_recv (L := LY) (kc := 0) (ki := 0) hK hWY okY0 rfl rfl) rfl hl.1 rfl (Nat.le_of_ble_eq_true rfl) d_L_329 (fun H locs hWY hz hkq hS => ?_)
      have hWX := hWX.apart hkq (fun q hq => off_Y hbY hq)
      refine lv_goto (tgt := 619) hx hb d_L_332 (by decide) ?_
      exact fin a1 r1 H locs hI1 hWX hWY hS
    by_cases hc5 : sw = (5 : Int32)
    · refine lv_tableIn (tgt := 335) hx hb d_L_33 (by rw [hc5]; decide) (by rw [hc5]; decide) (by rw [hc5]; rfl) (by decide) ?_
      obtain ⟨v, a1, r1, hdX, hdY, hI1⟩ := (hs k a r (by omega) hI (xs (6 * k + 1)).toInt (xs (6 * k + 2)).toInt (xs (6 * k + 3)).toInt (xs (6 * k + 4)).toInt (xs (6 * k + 5)).toInt (ir32 _) (ir32 _) (ir32 _) (ir32 _) (ir32 _)).2.2.2.2.2.1
      refine lv_aload_n hx hb d_L_335 rfl (lv_at hl 2 rfl) ?_
      refine k_callVi (C := "DeficitNet") (As := []) (rest := []) hx hb hml hown hts hK hWX hS (fun q hq => (by have := hq.1; omega : s.heap.size ≤ q)) (c_X_step l G bX (EE a) (Int32.ofInt v) (EE a1) (i_X_step hdX )) f_X_step ti_297 ⟨rfl, rfl⟩ ⟨Nat.le_of_ble_eq_true rfl, Nat.le_of_ble_eq_true rfl⟩ ⟨hc, hsl⟩ (q_recv (L := LX) (kc := 0) (ki := 0) hK hWX okX0 rfl rfl) rfl hl.1 rfl (Nat.le_of_ble_eq_true rfl) d_L_336 (fun H locs hWX hz hkq hS => ?_)
      have hWY := hWY.apart hkq (fun q hq => off_X hbY hq)
      refine lv_aload_n hx hb d_L_339 rfl (lv_at hl 1 rfl) ?_
      refine k_callVi (C := "DeficitNetModel") (As := []) (rest := [.int (Int32.ofInt v)]) hx hb hml hown hts hK hWY hS (fun q hq => (by have := hq.1; omega : s.heap.size ≤ q)) (c_Y_step l G bY (EE r) (Int32.ofInt v) (EE r1) (i_Y_step hdY )) f_Y_step ti_650 ⟨rfl, rfl⟩ ⟨Nat.le_of_ble_eq_true rfl, Nat.le_of_ble_eq_true rfl⟩ ⟨hc, hsl⟩ (q_recv (L := LY) (kc := 0) (ki := 0) hK hWY okY0 rfl rfl) rfl hl.1 rfl (Nat.le_of_ble_eq_true rfl) d_L_340 (fun H locs hWY hz hkq hS => ?_)
      have hWX := hWX.apart hkq (fun q hq => off_Y hbY hq)
      refine lv_icmp_eq (tgt := 619) hx hb d_L_343 (by decide) (fun _ => ?_) (fun hne => absurd rfl hne)
      exact fin a1 r1 H locs hI1 hWX hWY hS
    by_cases hc6 : sw = (6 : Int32)
    · refine lv_tableIn (tgt := 348) hx hb d_L_33 (by rw [hc6]; decide) (by rw [hc6]; decide) (by rw [hc6]; rfl) (by decide) ?_
      obtain ⟨v, a1, r1, hdX, hdY, hI1⟩ := (hs k a r (by omega) hI (xs (6 * k + 1)).toInt (xs (6 * k + 2)).toInt (xs (6 * k + 3)).toInt (xs (6 * k + 4)).toInt (xs (6 * k + 5)).toInt (ir32 _) (ir32 _) (ir32 _) (ir32 _) (ir32 _)).2.2.2.2.2.2.1
      refine lv_aload_n hx hb d_L_348 rfl (lv_at hl 2 rfl) ?_
      refine lv_aload_n hx hb d_L_349 rfl (lv_at hl 3 rfl) ?_
      refine lv_iload_n hx hb d_L_350 rfl (lv_at hl 0 rfl) ?_
      refine lv_iconst (v := (1 : Int32)) hx hb d_L_351 (by decide) ?_
      refine lv_iadd hx hb d_L_352 ?_
      refine k_sld (j := 6 * k + 1) hx hb hX hbl hbA hS (aix_i (by omega) (aiz_at (x := ((6 * k : Nat) : Int) + 1) (by omega) (by omega)) (hAdd rfl (by decide))) d_L_353 ?_
      refine k_callVi (C := "DeficitNet") (As := [.int (xs (6 * k + 1))]) (rest := []) hx hb hml hown hts hK hWX hS (fun q hq => (by have := hq.1; omega : s.heap.size ≤ q)) (c_X_run l G bX (xs (6 * k + 1)) (EE a) (Int32.ofInt v) (EE a1) (i_X_run hdX (rt32 _))) f_X_run ti_425 ⟨rfl, rfl⟩ ⟨Nat.le_of_ble_eq_true rfl, Nat.le_of_ble_eq_true rfl⟩ ⟨hc, hsl⟩ (q_recv (L := LX) (kc := 0) (ki := 0) hK hWX okX0 rfl rfl) rfl hl.1 rfl (Nat.le_of_ble_eq_true rfl) d_L_354 (fun H locs hWX hz hkq hS => ?_)
      have hWY := hWY.apart hkq (fun q hq => off_X hbY hq)
      refine lv_aload_n hx hb d_L_357 rfl (lv_at hl 1 rfl) ?_
      refine lv_aload_n hx hb d_L_358 rfl (lv_at hl 3 rfl) ?_
      refine lv_iload_n hx hb d_L_359 rfl (lv_at hl 0 rfl) ?_
      refine lv_iconst (v := (1 : Int32)) hx hb d_L_360 (by decide) ?_
      refine lv_iadd hx hb d_L_361 ?_
      refine k_sld (j := 6 * k + 1) hx hb hX hbl hbA hS (aix_i (by omega) (aiz_at (x := ((6 * k : Nat) : Int) + 1) (by omega) (by omega)) (hAdd rfl (by decide))) d_L_362 ?_
      refine k_callVi (C := "DeficitNetModel") (As := [.int (xs (6 * k + 1))]) (rest := [.int (Int32.ofInt v)]) hx hb hml hown hts hK hWY hS (fun q hq => (by have := hq.1; omega : s.heap.size ≤ q)) (c_Y_run l G bY (xs (6 * k + 1)) (EE r) (Int32.ofInt v) (EE r1) (i_Y_run hdY (rt32 _))) f_Y_run ti_730 ⟨rfl, rfl⟩ ⟨Nat.le_of_ble_eq_true rfl, Nat.le_of_ble_eq_true rfl⟩ ⟨hc, hsl⟩ (q_recv (L := LY) (kc := 0) (ki := 0) hK hWY okY0 rfl rfl) rfl hl.1 rfl (Nat.le_of_ble_eq_true rfl) d_L_363 (fun H locs hWY hz hkq hS => ?_)
      have hWX := hWX.apart hkq (fun q hq => off_Y hbY hq)
      refine lv_icmp_eq (tgt := 619) hx hb d_L_366 (by decide) (fun _ => ?_) (fun hne => absurd rfl hne)
      exact fin a1 r1 H locs hI1 hWX hWY hS
    by_cases hc7 : sw = (7 : Int32)
    · refine lv_tableIn (tgt := 371) hx hb d_L_33 (by rw [hc7]; decide) (by rw [hc7]; decide) (by rw [hc7]; rfl) (by decide) ?_
      obtain ⟨v, a1, r1, hdX, hdY, hI1⟩ := (hs k a r (by omega) hI (xs (6 * k + 1)).toInt (xs (6 * k + 2)).toInt (xs (6 * k + 3)).toInt (xs (6 * k + 4)).toInt (xs (6 * k + 5)).toInt (ir32 _) (ir32 _) (ir32 _) (ir32 _) (ir32 _)).2.2.2.2.2.2.2.1
      refine lv_aload_n hx hb d_L_371 rfl (lv_at hl 2 rfl) ?_
      refine k_callVi (C := "DeficitNet") (As := []) (rest := []) hx hb hml hown hts hK hWX hS (fun q hq => (by have := hq.1; omega : s.heap.size ≤ q)) (c_X_now l G bX (EE a) (Int32.ofInt v) (EE a1) (i_X_now hdX )) f_X_now ti_429 ⟨rfl, rfl⟩ ⟨Nat.le_of_ble_eq_true rfl, Nat.le_of_ble_eq_true rfl⟩ ⟨hc, hsl⟩ (q_recv (L := LX) (kc := 0) (ki := 0) hK hWX okX0 rfl rfl) rfl hl.1 rfl (Nat.le_of_ble_eq_true rfl) d_L_372 (fun H locs hWX hz hkq hS => ?_)
      have hWY := hWY.apart hkq (fun q hq => off_X hbY hq)
      refine lv_aload_n hx hb d_L_375 rfl (lv_at hl 1 rfl) ?_
      refine k_callVi (C := "DeficitNetModel") (As := []) (rest := [.int (Int32.ofInt v)]) hx hb hml hown hts hK hWY hS (fun q hq => (by have := hq.1; omega : s.heap.size ≤ q)) (c_Y_now l G bY (EE r) (Int32.ofInt v) (EE r1) (i_Y_now hdY )) f_Y_now ti_735 ⟨rfl, rfl⟩ ⟨Nat.le_of_ble_eq_true rfl, Nat.le_of_ble_eq_true rfl⟩ ⟨hc, hsl⟩ (q_recv (L := LY) (kc := 0) (ki := 0) hK hWY okY0 rfl rfl) rfl hl.1 rfl (Nat.le_of_ble_eq_true rfl) d_L_376 (fun H locs hWY hz hkq hS => ?_)
      have hWX := hWX.apart hkq (fun q hq => off_Y hbY hq)
      refine lv_icmp_eq (tgt := 619) hx hb d_L_379 (by decide) (fun _ => ?_) (fun hne => absurd rfl hne)
      exact fin a1 r1 H locs hI1 hWX hWY hS
    by_cases hc8 : sw = (8 : Int32)
    · refine lv_tableIn (tgt := 384) hx hb d_L_33 (by rw [hc8]; decide) (by rw [hc8]; decide) (by rw [hc8]; rfl) (by decide) ?_
      obtain ⟨v, a1, r1, hdX, hdY, hI1⟩ := (hs k a r (by omega) hI (xs (6 * k + 1)).toInt (xs (6 * k + 2)).toInt (xs (6 * k + 3)).toInt (xs (6 * k + 4)).toInt (xs (6 * k + 5)).toInt (ir32 _) (ir32 _) (ir32 _) (ir32 _) (ir32 _)).2.2.2.2.2.2.2.2.1
      refine lv_aload_n hx hb d_L_384 rfl (lv_at hl 2 rfl) ?_
      refine lv_aload_n hx hb d_L_385 rfl (lv_at hl 3 rfl) ?_
      refine lv_iload_n hx hb d_L_386 rfl (lv_at hl 0 rfl) ?_
      refine lv_iconst (v := (1 : Int32)) hx hb d_L_387 (by decide) ?_
      refine lv_iadd hx hb d_L_388 ?_
      refine k_sld (j := 6 * k + 1) hx hb hX hbl hbA hS (aix_i (by omega) (aiz_at (x := ((6 * k : Nat) : Int) + 1) (by omega) (by omega)) (hAdd rfl (by decide))) d_L_389 ?_
      refine k_callVj (C := "DeficitNet") (As := [.int (xs (6 * k + 1))]) (rest := []) hx hb hml hown hts hK hWX hS (fun q hq => (by have := hq.1; omega : s.heap.size ≤ q)) (c_X_trace l G bX (xs (6 * k + 1)) (EE a) (Int64.ofInt v) (EE a1) (i_X_trace hdX (rt32 _))) f_X_trace ti_433 ⟨rfl, rfl⟩ ⟨Nat.le_of_ble_eq_true rfl, Nat.le_of_ble_eq_true rfl⟩ ⟨hc, hsl⟩ (q_recv (L := LX) (kc := 0) (ki := 0) hK hWX okX0 rfl rfl) rfl hl.1 rfl (Nat.le_of_ble_eq_true rfl) d_L_390 (fun H locs hWX hz hkq hS => ?_)
      have hWY := hWY.apart hkq (fun q hq => off_X hbY hq)
      refine lv_aload_n hx hb d_L_393 rfl (lv_at hl 1 rfl) ?_
      refine lv_aload_n hx hb d_L_394 rfl (lv_at hl 3 rfl) ?_
      refine lv_iload_n hx hb d_L_395 rfl (lv_at hl 0 rfl) ?_
      refine lv_iconst (v := (1 : Int32)) hx hb d_L_396 (by decide) ?_
      refine lv_iadd hx hb d_L_397 ?_
      refine k_sld (j := 6 * k + 1) hx hb hX hbl hbA hS (aix_i (by omega) (aiz_at (x := ((6 * k : Nat) : Int) + 1) (by omega) (by omega)) (hAdd rfl (by decide))) d_L_398 ?_
      refine k_callVj (C := "DeficitNetModel") (As := [.int (xs (6 * k + 1))]) (rest := [.long (Int64.ofInt v)]) hx hb hml hown hts hK hWY hS (fun q hq => (by have := hq.1; omega : s.heap.size ≤ q)) (c_Y_trace l G bY (xs (6 * k + 1)) (EE r) (Int64.ofInt v) (EE r1) (i_Y_trace hdY (rt32 _))) f_Y_trace ti_739 ⟨rfl, rfl⟩ ⟨Nat.le_of_ble_eq_true rfl, Nat.le_of_ble_eq_true rfl⟩ ⟨hc, hsl⟩ (q_recv (L := LY) (kc := 0) (ki := 0) hK hWY okY0 rfl rfl) rfl hl.1 rfl (Nat.le_of_ble_eq_true rfl) d_L_399 (fun H locs hWY hz hkq hS => ?_)
      have hWX := hWX.apart hkq (fun q hq => off_Y hbY hq)
      refine W.lcmp hx hb d_L_402 ?_
      refine lv_if_eq (tgt := 619) hx hb d_L_403 (by decide) (fun _ => ?_) (fun hne => absurd (cmp_self _) hne)
      exact fin a1 r1 H locs hI1 hWX hWY hS
    by_cases hc9 : sw = (9 : Int32)
    · refine lv_tableIn (tgt := 408) hx hb d_L_33 (by rw [hc9]; decide) (by rw [hc9]; decide) (by rw [hc9]; rfl) (by decide) ?_
      obtain ⟨v, a1, r1, hdX, hdY, hI1⟩ := (hs k a r (by omega) hI (xs (6 * k + 1)).toInt (xs (6 * k + 2)).toInt (xs (6 * k + 3)).toInt (xs (6 * k + 4)).toInt (xs (6 * k + 5)).toInt (ir32 _) (ir32 _) (ir32 _) (ir32 _) (ir32 _)).2.2.2.2.2.2.2.2.2.1
      refine lv_aload_n hx hb d_L_408 rfl (lv_at hl 2 rfl) ?_
      refine lv_aload_n hx hb d_L_409 rfl (lv_at hl 3 rfl) ?_
      refine lv_iload_n hx hb d_L_410 rfl (lv_at hl 0 rfl) ?_
      refine lv_iconst (v := (1 : Int32)) hx hb d_L_411 (by decide) ?_
      refine lv_iadd hx hb d_L_412 ?_
      refine k_sld (j := 6 * k + 1) hx hb hX hbl hbA hS (aix_i (by omega) (aiz_at (x := ((6 * k : Nat) : Int) + 1) (by omega) (by omega)) (hAdd rfl (by decide))) d_L_413 ?_
      refine lv_aload_n hx hb d_L_414 rfl (lv_at hl 3 rfl) ?_
      refine lv_iload_n hx hb d_L_415 rfl (lv_at hl 0 rfl) ?_
      refine lv_iconst (v := (2 : Int32)) hx hb d_L_416 (by decide) ?_
      refine lv_iadd hx hb d_L_417 ?_
      refine k_sld (j := 6 * k + 2) hx hb hX hbl hbA hS (aix_i (by omega) (aiz_at (x := ((6 * k : Nat) : Int) + 2) (by omega) (by omega)) (hAdd rfl (by decide))) d_L_418 ?_
      refine k_callVi (C := "DeficitNet") (As := [.int (xs (6 * k + 1)), .int (xs (6 * k + 2))]) (rest := []) hx hb hml hown hts hK hWX hS (fun q hq => (by have := hq.1; omega : s.heap.size ≤ q)) (c_X_distance l G bX (xs (6 * k + 1)) (xs (6 * k + 2)) (EE a) (Int32.ofInt v) (EE a1) (i_X_distance hdX (rt32 _) (rt32 _))) f_X_distance ti_437 ⟨rfl, rfl⟩ ⟨Nat.le_of_ble_eq_true rfl, Nat.le_of_ble_eq_true rfl⟩ ⟨hc, hsl⟩ (q_recv (L := LX) (kc := 0) (ki := 0) hK hWX okX0 rfl rfl) rfl hl.1 rfl (Nat.le_of_ble_eq_true rfl) d_L_419 (fun H locs hWX hz hkq hS => ?_)
      have hWY := hWY.apart hkq (fun q hq => off_X hbY hq)
      refine lv_aload_n hx hb d_L_422 rfl (lv_at hl 1 rfl) ?_
      refine lv_aload_n hx hb d_L_423 rfl (lv_at hl 3 rfl) ?_
      refine lv_iload_n hx hb d_L_424 rfl (lv_at hl 0 rfl) ?_
      refine lv_iconst (v := (1 : Int32)) hx hb d_L_425 (by decide) ?_
      refine lv_iadd hx hb d_L_426 ?_
      refine k_sld (j := 6 * k + 1) hx hb hX hbl hbA hS (aix_i (by omega) (aiz_at (x := ((6 * k : Nat) : Int) + 1) (by omega) (by omega)) (hAdd rfl (by decide))) d_L_427 ?_
      refine lv_aload_n hx hb d_L_428 rfl (lv_at hl 3 rfl) ?_
      refine lv_iload_n hx hb d_L_429 rfl (lv_at hl 0 rfl) ?_
      refine lv_iconst (v := (2 : Int32)) hx hb d_L_430 (by decide) ?_
      refine lv_iadd hx hb d_L_431 ?_
      refine k_sld (j := 6 * k + 2) hx hb hX hbl hbA hS (aix_i (by omega) (aiz_at (x := ((6 * k : Nat) : Int) + 2) (by omega) (by omega)) (hAdd rfl (by decide))) d_L_432 ?_
      refine k_callVi (C := "DeficitNetModel") (As := [.int (xs (6 * k + 1)), .int (xs (6 * k + 2))]) (rest := [.int (Int32.ofInt v)]) hx hb hml hown hts hK hWY hS (fun q hq => (by have := hq.1; omega : s.heap.size ≤ q)) (c_Y_distance l G bY (xs (6 * k + 1)) (xs (6 * k + 2)) (EE r) (Int32.ofInt v) (EE r1) (i_Y_distance hdY (rt32 _) (rt32 _))) f_Y_distance ti_633 ⟨rfl, rfl⟩ ⟨Nat.le_of_ble_eq_true rfl, Nat.le_of_ble_eq_true rfl⟩ ⟨hc, hsl⟩ (q_recv (L := LY) (kc := 0) (ki := 0) hK hWY okY0 rfl rfl) rfl hl.1 rfl (Nat.le_of_ble_eq_true rfl) d_L_433 (fun H locs hWY hz hkq hS => ?_)
      have hWX := hWX.apart hkq (fun q hq => off_Y hbY hq)
      refine lv_icmp_eq (tgt := 619) hx hb d_L_436 (by decide) (fun _ => ?_) (fun hne => absurd rfl hne)
      exact fin a1 r1 H locs hI1 hWX hWY hS
    by_cases hc10 : sw = (10 : Int32)
    · refine lv_tableIn (tgt := 441) hx hb d_L_33 (by rw [hc10]; decide) (by rw [hc10]; decide) (by rw [hc10]; rfl) (by decide) ?_
      obtain ⟨v, a1, r1, hdX, hdY, hI1⟩ := (hs k a r (by omega) hI (xs (6 * k + 1)).toInt (xs (6 * k + 2)).toInt (xs (6 * k + 3)).toInt (xs (6 * k + 4)).toInt (xs (6 * k + 5)).toInt (ir32 _) (ir32 _) (ir32 _) (ir32 _) (ir32 _)).2.2.2.2.2.2.2.2.2.2.1
      refine lv_aload_n hx hb d_L_441 rfl (lv_at hl 2 rfl) ?_
      refine lv_aload_n hx hb d_L_442 rfl (lv_at hl 3 rfl) ?_
      refine lv_iload_n hx hb d_L_443 rfl (lv_at hl 0 rfl) ?_
      refine lv_iconst (v := (1 : Int32)) hx hb d_L_444 (by decide) ?_
      refine lv_iadd hx hb d_L_445 ?_
      refine k_sld (j := 6 * k + 1) hx hb hX hbl hbA hS (aix_i (by omega) (aiz_at (x := ((6 * k : Nat) : Int) + 1) (by omega) (by omega)) (hAdd rfl (by decide))) d_L_446 ?_
      refine lv_aload_n hx hb d_L_447 rfl (lv_at hl 3 rfl) ?_
      refine lv_iload_n hx hb d_L_448 rfl (lv_at hl 0 rfl) ?_
      refine lv_iconst (v := (2 : Int32)) hx hb d_L_449 (by decide) ?_
      refine lv_iadd hx hb d_L_450 ?_
      refine k_sld (j := 6 * k + 2) hx hb hX hbl hbA hS (aix_i (by omega) (aiz_at (x := ((6 * k : Nat) : Int) + 2) (by omega) (by omega)) (hAdd rfl (by decide))) d_L_451 ?_
      refine k_callVi (C := "DeficitNet") (As := [.int (xs (6 * k + 1)), .int (xs (6 * k + 2))]) (rest := []) hx hb hml hown hts hK hWX hS (fun q hq => (by have := hq.1; omega : s.heap.size ≤ q)) (c_X_way l G bX (xs (6 * k + 1)) (xs (6 * k + 2)) (EE a) (Int32.ofInt v) (EE a1) (i_X_way hdX (rt32 _) (rt32 _))) f_X_way ti_441 ⟨rfl, rfl⟩ ⟨Nat.le_of_ble_eq_true rfl, Nat.le_of_ble_eq_true rfl⟩ ⟨hc, hsl⟩ (q_recv (L := LX) (kc := 0) (ki := 0) hK hWX okX0 rfl rfl) rfl hl.1 rfl (Nat.le_of_ble_eq_true rfl) d_L_452 (fun H locs hWX hz hkq hS => ?_)
      have hWY := hWY.apart hkq (fun q hq => off_X hbY hq)
      refine lv_aload_n hx hb d_L_455 rfl (lv_at hl 1 rfl) ?_
      refine lv_aload_n hx hb d_L_456 rfl (lv_at hl 3 rfl) ?_
      refine lv_iload_n hx hb d_L_457 rfl (lv_at hl 0 rfl) ?_
      refine lv_iconst (v := (1 : Int32)) hx hb d_L_458 (by decide) ?_
      refine lv_iadd hx hb d_L_459 ?_
      refine k_sld (j := 6 * k + 1) hx hb hX hbl hbA hS (aix_i (by omega) (aiz_at (x := ((6 * k : Nat) : Int) + 1) (by omega) (by omega)) (hAdd rfl (by decide))) d_L_460 ?_
      refine lv_aload_n hx hb d_L_461 rfl (lv_at hl 3 rfl) ?_
      refine lv_iload_n hx hb d_L_462 rfl (lv_at hl 0 rfl) ?_
      refine lv_iconst (v := (2 : Int32)) hx hb d_L_463 (by decide) ?_
      refine lv_iadd hx hb d_L_464 ?_
      refine k_sld (j := 6 * k + 2) hx hb hX hbl hbA hS (aix_i (by omega) (aiz_at (x := ((6 * k : Nat) : Int) + 2) (by omega) (by omega)) (hAdd rfl (by decide))) d_L_465 ?_
      refine k_callVi (C := "DeficitNetModel") (As := [.int (xs (6 * k + 1)), .int (xs (6 * k + 2))]) (rest := [.int (Int32.ofInt v)]) hx hb hml hown hts hK hWY hS (fun q hq => (by have := hq.1; omega : s.heap.size ≤ q)) (c_Y_way l G bY (xs (6 * k + 1)) (xs (6 * k + 2)) (EE r) (Int32.ofInt v) (EE r1) (i_Y_way hdY (rt32 _) (rt32 _))) f_Y_way ti_637 ⟨rfl, rfl⟩ ⟨Nat.le_of_ble_eq_true rfl, Nat.le_of_ble_eq_true rfl⟩ ⟨hc, hsl⟩ (q_recv (L := LY) (kc := 0) (ki := 0) hK hWY okY0 rfl rfl) rfl hl.1 rfl (Nat.le_of_ble_eq_true rfl) d_L_466 (fun H locs hWY hz hkq hS => ?_)
      have hWX := hWX.apart hkq (fun q hq => off_Y hbY hq)
      refine lv_icmp_eq (tgt := 619) hx hb d_L_469 (by decide) (fun _ => ?_) (fun hne => absurd rfl hne)
      exact fin a1 r1 H locs hI1 hWX hWY hS
    by_cases hc11 : sw = (11 : Int32)
    · refine lv_tableIn (tgt := 474) hx hb d_L_33 (by rw [hc11]; decide) (by rw [hc11]; decide) (by rw [hc11]; rfl) (by decide) ?_
      obtain ⟨v, a1, r1, hdX, hdY, hI1⟩ := (hs k a r (by omega) hI (xs (6 * k + 1)).toInt (xs (6 * k + 2)).toInt (xs (6 * k + 3)).toInt (xs (6 * k + 4)).toInt (xs (6 * k + 5)).toInt (ir32 _) (ir32 _) (ir32 _) (ir32 _) (ir32 _)).2.2.2.2.2.2.2.2.2.2.2.1
      refine lv_aload_n hx hb d_L_474 rfl (lv_at hl 2 rfl) ?_
      refine lv_aload_n hx hb d_L_475 rfl (lv_at hl 3 rfl) ?_
      refine lv_iload_n hx hb d_L_476 rfl (lv_at hl 0 rfl) ?_
      refine lv_iconst (v := (1 : Int32)) hx hb d_L_477 (by decide) ?_
      refine lv_iadd hx hb d_L_478 ?_
      refine k_sld (j := 6 * k + 1) hx hb hX hbl hbA hS (aix_i (by omega) (aiz_at (x := ((6 * k : Nat) : Int) + 1) (by omega) (by omega)) (hAdd rfl (by decide))) d_L_479 ?_
      refine lv_aload_n hx hb d_L_480 rfl (lv_at hl 3 rfl) ?_
      refine lv_iload_n hx hb d_L_481 rfl (lv_at hl 0 rfl) ?_
      refine lv_iconst (v := (2 : Int32)) hx hb d_L_482 (by decide) ?_
      refine lv_iadd hx hb d_L_483 ?_
      refine k_sld (j := 6 * k + 2) hx hb hX hbl hbA hS (aix_i (by omega) (aiz_at (x := ((6 * k : Nat) : Int) + 2) (by omega) (by omega)) (hAdd rfl (by decide))) d_L_484 ?_
      refine k_callVi (C := "DeficitNet") (As := [.int (xs (6 * k + 1)), .int (xs (6 * k + 2))]) (rest := []) hx hb hml hown hts hK hWX hS (fun q hq => (by have := hq.1; omega : s.heap.size ≤ q)) (c_X_waiting l G bX (xs (6 * k + 1)) (xs (6 * k + 2)) (EE a) (Int32.ofInt v) (EE a1) (i_X_waiting hdX (rt32 _) (rt32 _))) f_X_waiting ti_442 ⟨rfl, rfl⟩ ⟨Nat.le_of_ble_eq_true rfl, Nat.le_of_ble_eq_true rfl⟩ ⟨hc, hsl⟩ (q_recv (L := LX) (kc := 0) (ki := 0) hK hWX okX0 rfl rfl) rfl hl.1 rfl (Nat.le_of_ble_eq_true rfl) d_L_485 (fun H locs hWX hz hkq hS => ?_)
      have hWY := hWY.apart hkq (fun q hq => off_X hbY hq)
      refine lv_aload_n hx hb d_L_488 rfl (lv_at hl 1 rfl) ?_
      refine lv_aload_n hx hb d_L_489 rfl (lv_at hl 3 rfl) ?_
      refine lv_iload_n hx hb d_L_490 rfl (lv_at hl 0 rfl) ?_
      refine lv_iconst (v := (1 : Int32)) hx hb d_L_491 (by decide) ?_
      refine lv_iadd hx hb d_L_492 ?_
      refine k_sld (j := 6 * k + 1) hx hb hX hbl hbA hS (aix_i (by omega) (aiz_at (x := ((6 * k : Nat) : Int) + 1) (by omega) (by omega)) (hAdd rfl (by decide))) d_L_493 ?_
      refine lv_aload_n hx hb d_L_494 rfl (lv_at hl 3 rfl) ?_
      refine lv_iload_n hx hb d_L_495 rfl (lv_at hl 0 rfl) ?_
      refine lv_iconst (v := (2 : Int32)) hx hb d_L_496 (by decide) ?_
      refine lv_iadd hx hb d_L_497 ?_
      refine k_sld (j := 6 * k + 2) hx hb hX hbl hbA hS (aix_i (by omega) (aiz_at (x := ((6 * k : Nat) : Int) + 2) (by omega) (by omega)) (hAdd rfl (by decide))) d_L_498 ?_
      refine k_callVi (C := "DeficitNetModel") (As := [.int (xs (6 * k + 1)), .int (xs (6 * k + 2))]) (rest := [.int (Int32.ofInt v)]) hx hb hml hown hts hK hWY hS (fun q hq => (by have := hq.1; omega : s.heap.size ≤ q)) (c_Y_waiting l G bY (xs (6 * k + 1)) (xs (6 * k + 2)) (EE r) (Int32.ofInt v) (EE r1) (i_Y_waiting hdY (rt32 _) (rt32 _))) f_Y_waiting ti_744 ⟨rfl, rfl⟩ ⟨Nat.le_of_ble_eq_true rfl, Nat.le_of_ble_eq_true rfl⟩ ⟨hc, hsl⟩ (q_recv (L := LY) (kc := 0) (ki := 0) hK hWY okY0 rfl rfl) rfl hl.1 rfl (Nat.le_of_ble_eq_true rfl) d_L_499 (fun H locs hWY hz hkq hS => ?_)
      have hWX := hWX.apart hkq (fun q hq => off_Y hbY hq)
      refine lv_icmp_eq (tgt := 619) hx hb d_L_502 (by decide) (fun _ => ?_) (fun hne => absurd rfl hne)
      exact fin a1 r1 H locs hI1 hWX hWY hS
    by_cases hc12 : sw = (12 : Int32)
    · refine lv_tableIn (tgt := 507) hx hb d_L_33 (by rw [hc12]; decide) (by rw [hc12]; decide) (by rw [hc12]; rfl) (by decide) ?_
      obtain ⟨v, a1, r1, hdX, hdY, hI1⟩ := (hs k a r (by omega) hI (xs (6 * k + 1)).toInt (xs (6 * k + 2)).toInt (xs (6 * k + 3)).toInt (xs (6 * k + 4)).toInt (xs (6 * k + 5)).toInt (ir32 _) (ir32 _) (ir32 _) (ir32 _) (ir32 _)).2.2.2.2.2.2.2.2.2.2.2.2.1
      refine lv_aload_n hx hb d_L_507 rfl (lv_at hl 2 rfl) ?_
      refine lv_aload_n hx hb d_L_508 rfl (lv_at hl 3 rfl) ?_
      refine lv_iload_n hx hb d_L_509 rfl (lv_at hl 0 rfl) ?_
      refine lv_iconst (v := (1 : Int32)) hx hb d_L_510 (by decide) ?_
      refine lv_iadd hx hb d_L_511 ?_
      refine k_sld (j := 6 * k + 1) hx hb hX hbl hbA hS (aix_i (by omega) (aiz_at (x := ((6 * k : Nat) : Int) + 1) (by omega) (by omega)) (hAdd rfl (by decide))) d_L_512 ?_
      refine lv_aload_n hx hb d_L_513 rfl (lv_at hl 3 rfl) ?_
      refine lv_iload_n hx hb d_L_514 rfl (lv_at hl 0 rfl) ?_
      refine lv_iconst (v := (2 : Int32)) hx hb d_L_515 (by decide) ?_
      refine lv_iadd hx hb d_L_516 ?_
      refine k_sld (j := 6 * k + 2) hx hb hX hbl hbA hS (aix_i (by omega) (aiz_at (x := ((6 * k : Nat) : Int) + 2) (by omega) (by omega)) (hAdd rfl (by decide))) d_L_517 ?_
      refine k_callVi (C := "DeficitNet") (As := [.int (xs (6 * k + 1)), .int (xs (6 * k + 2))]) (rest := []) hx hb hml hown hts hK hWX hS (fun q hq => (by have := hq.1; omega : s.heap.size ≤ q)) (c_X_deficit l G bX (xs (6 * k + 1)) (xs (6 * k + 2)) (EE a) (Int32.ofInt v) (EE a1) (i_X_deficit hdX (rt32 _) (rt32 _))) f_X_deficit ti_446 ⟨rfl, rfl⟩ ⟨Nat.le_of_ble_eq_true rfl, Nat.le_of_ble_eq_true rfl⟩ ⟨hc, hsl⟩ (q_recv (L := LX) (kc := 0) (ki := 0) hK hWX okX0 rfl rfl) rfl hl.1 rfl (Nat.le_of_ble_eq_true rfl) d_L_518 (fun H locs hWX hz hkq hS => ?_)
      have hWY := hWY.apart hkq (fun q hq => off_X hbY hq)
      refine lv_aload_n hx hb d_L_521 rfl (lv_at hl 1 rfl) ?_
      refine lv_aload_n hx hb d_L_522 rfl (lv_at hl 3 rfl) ?_
      refine lv_iload_n hx hb d_L_523 rfl (lv_at hl 0 rfl) ?_
      refine lv_iconst (v := (1 : Int32)) hx hb d_L_524 (by decide) ?_
      refine lv_iadd hx hb d_L_525 ?_
      refine k_sld (j := 6 * k + 1) hx hb hX hbl hbA hS (aix_i (by omega) (aiz_at (x := ((6 * k : Nat) : Int) + 1) (by omega) (by omega)) (hAdd rfl (by decide))) d_L_526 ?_
      refine lv_aload_n hx hb d_L_527 rfl (lv_at hl 3 rfl) ?_
      refine lv_iload_n hx hb d_L_528 rfl (lv_at hl 0 rfl) ?_
      refine lv_iconst (v := (2 : Int32)) hx hb d_L_529 (by decide) ?_
      refine lv_iadd hx hb d_L_530 ?_
      refine k_sld (j := 6 * k + 2) hx hb hX hbl hbA hS (aix_i (by omega) (aiz_at (x := ((6 * k : Nat) : Int) + 2) (by omega) (by omega)) (hAdd rfl (by decide))) d_L_531 ?_
      refine k_callVi (C := "DeficitNetModel") (As := [.int (xs (6 * k + 1)), .int (xs (6 * k + 2))]) (rest := [.int (Int32.ofInt v)]) hx hb hml hown hts hK hWY hS (fun q hq => (by have := hq.1; omega : s.heap.size ≤ q)) (c_Y_deficit l G bY (xs (6 * k + 1)) (xs (6 * k + 2)) (EE r) (Int32.ofInt v) (EE r1) (i_Y_deficit hdY (rt32 _) (rt32 _))) f_Y_deficit ti_748 ⟨rfl, rfl⟩ ⟨Nat.le_of_ble_eq_true rfl, Nat.le_of_ble_eq_true rfl⟩ ⟨hc, hsl⟩ (q_recv (L := LY) (kc := 0) (ki := 0) hK hWY okY0 rfl rfl) rfl hl.1 rfl (Nat.le_of_ble_eq_true rfl) d_L_532 (fun H locs hWY hz hkq hS => ?_)
      have hWX := hWX.apart hkq (fun q hq => off_Y hbY hq)
      refine lv_icmp_eq (tgt := 619) hx hb d_L_535 (by decide) (fun _ => ?_) (fun hne => absurd rfl hne)
      exact fin a1 r1 H locs hI1 hWX hWY hS
    by_cases hc13 : sw = (13 : Int32)
    · refine lv_tableIn (tgt := 540) hx hb d_L_33 (by rw [hc13]; decide) (by rw [hc13]; decide) (by rw [hc13]; rfl) (by decide) ?_
      obtain ⟨v, a1, r1, hdX, hdY, hI1⟩ := (hs k a r (by omega) hI (xs (6 * k + 1)).toInt (xs (6 * k + 2)).toInt (xs (6 * k + 3)).toInt (xs (6 * k + 4)).toInt (xs (6 * k + 5)).toInt (ir32 _) (ir32 _) (ir32 _) (ir32 _) (ir32 _)).2.2.2.2.2.2.2.2.2.2.2.2.2.1
      refine lv_aload_n hx hb d_L_540 rfl (lv_at hl 2 rfl) ?_
      refine lv_aload_n hx hb d_L_541 rfl (lv_at hl 3 rfl) ?_
      refine lv_iload_n hx hb d_L_542 rfl (lv_at hl 0 rfl) ?_
      refine lv_iconst (v := (1 : Int32)) hx hb d_L_543 (by decide) ?_
      refine lv_iadd hx hb d_L_544 ?_
      refine k_sld (j := 6 * k + 1) hx hb hX hbl hbA hS (aix_i (by omega) (aiz_at (x := ((6 * k : Nat) : Int) + 1) (by omega) (by omega)) (hAdd rfl (by decide))) d_L_545 ?_
      refine k_callVi (C := "DeficitNet") (As := [.int (xs (6 * k + 1))]) (rest := []) hx hb hml hown hts hK hWX hS (fun q hq => (by have := hq.1; omega : s.heap.size ≤ q)) (c_X_onPort l G bX (xs (6 * k + 1)) (EE a) (Int32.ofInt v) (EE a1) (i_X_onPort hdX (rt32 _))) f_X_onPort ti_450 ⟨rfl, rfl⟩ ⟨Nat.le_of_ble_eq_true rfl, Nat.le_of_ble_eq_true rfl⟩ ⟨hc, hsl⟩ (q_recv (L := LX) (kc := 0) (ki := 0) hK hWX okX0 rfl rfl) rfl hl.1 rfl (Nat.le_of_ble_eq_true rfl) d_L_546 (fun H locs hWX hz hkq hS => ?_)
      have hWY := hWY.apart hkq (fun q hq => off_X hbY hq)
      refine lv_aload_n hx hb d_L_549 rfl (lv_at hl 1 rfl) ?_
      refine lv_aload_n hx hb d_L_550 rfl (lv_at hl 3 rfl) ?_
      refine lv_iload_n hx hb d_L_551 rfl (lv_at hl 0 rfl) ?_
      refine lv_iconst (v := (1 : Int32)) hx hb d_L_552 (by decide) ?_
      refine lv_iadd hx hb d_L_553 ?_
      refine k_sld (j := 6 * k + 1) hx hb hX hbl hbA hS (aix_i (by omega) (aiz_at (x := ((6 * k : Nat) : Int) + 1) (by omega) (by omega)) (hAdd rfl (by decide))) d_L_554 ?_
      refine k_callVi (C := "DeficitNetModel") (As := [.int (xs (6 * k + 1))]) (rest := [.int (Int32.ofInt v)]) hx hb hml hown hts hK hWY hS (fun q hq => (by have := hq.1; omega : s.heap.size ≤ q)) (c_Y_onPort l G bY (xs (6 * k + 1)) (EE r) (Int32.ofInt v) (EE r1) (i_Y_onPort hdY (rt32 _))) f_Y_onPort ti_752 ⟨rfl, rfl⟩ ⟨Nat.le_of_ble_eq_true rfl, Nat.le_of_ble_eq_true rfl⟩ ⟨hc, hsl⟩ (q_recv (L := LY) (kc := 0) (ki := 0) hK hWY okY0 rfl rfl) rfl hl.1 rfl (Nat.le_of_ble_eq_true rfl) d_L_555 (fun H locs hWY hz hkq hS => ?_)
      have hWX := hWX.apart hkq (fun q hq => off_Y hbY hq)
      refine lv_icmp_eq (tgt := 619) hx hb d_L_558 (by decide) (fun _ => ?_) (fun hne => absurd rfl hne)
      exact fin a1 r1 H locs hI1 hWX hWY hS
    by_cases hc14 : sw = (14 : Int32)
    · refine lv_tableIn (tgt := 563) hx hb d_L_33 (by rw [hc14]; decide) (by rw [hc14]; decide) (by rw [hc14]; rfl) (by decide) ?_
      obtain ⟨v, a1, r1, hdX, hdY, hI1⟩ := (hs k a r (by omega) hI (xs (6 * k + 1)).toInt (xs (6 * k + 2)).toInt (xs (6 * k + 3)).toInt (xs (6 * k + 4)).toInt (xs (6 * k + 5)).toInt (ir32 _) (ir32 _) (ir32 _) (ir32 _) (ir32 _)).2.2.2.2.2.2.2.2.2.2.2.2.2.2.1
      refine lv_aload_n hx hb d_L_563 rfl (lv_at hl 2 rfl) ?_
      refine lv_aload_n hx hb d_L_564 rfl (lv_at hl 3 rfl) ?_
      refine lv_iload_n hx hb d_L_565 rfl (lv_at hl 0 rfl) ?_
      refine lv_iconst (v := (1 : Int32)) hx hb d_L_566 (by decide) ?_
      refine lv_iadd hx hb d_L_567 ?_
      refine k_sld (j := 6 * k + 1) hx hb hX hbl hbA hS (aix_i (by omega) (aiz_at (x := ((6 * k : Nat) : Int) + 1) (by omega) (by omega)) (hAdd rfl (by decide))) d_L_568 ?_
      refine k_callVi (C := "DeficitNet") (As := [.int (xs (6 * k + 1))]) (rest := []) hx hb hml hown hts hK hWX hS (fun q hq => (by have := hq.1; omega : s.heap.size ≤ q)) (c_X_timer l G bX (xs (6 * k + 1)) (EE a) (Int32.ofInt v) (EE a1) (i_X_timer hdX (rt32 _))) f_X_timer ti_454 ⟨rfl, rfl⟩ ⟨Nat.le_of_ble_eq_true rfl, Nat.le_of_ble_eq_true rfl⟩ ⟨hc, hsl⟩ (q_recv (L := LX) (kc := 0) (ki := 0) hK hWX okX0 rfl rfl) rfl hl.1 rfl (Nat.le_of_ble_eq_true rfl) d_L_569 (fun H locs hWX hz hkq hS => ?_)
      have hWY := hWY.apart hkq (fun q hq => off_X hbY hq)
      refine lv_aload_n hx hb d_L_572 rfl (lv_at hl 1 rfl) ?_
      refine lv_aload_n hx hb d_L_573 rfl (lv_at hl 3 rfl) ?_
      refine lv_iload_n hx hb d_L_574 rfl (lv_at hl 0 rfl) ?_
      refine lv_iconst (v := (1 : Int32)) hx hb d_L_575 (by decide) ?_
      refine lv_iadd hx hb d_L_576 ?_
      refine k_sld (j := 6 * k + 1) hx hb hX hbl hbA hS (aix_i (by omega) (aiz_at (x := ((6 * k : Nat) : Int) + 1) (by omega) (by omega)) (hAdd rfl (by decide))) d_L_577 ?_
      refine k_callVi (C := "DeficitNetModel") (As := [.int (xs (6 * k + 1))]) (rest := [.int (Int32.ofInt v)]) hx hb hml hown hts hK hWY hS (fun q hq => (by have := hq.1; omega : s.heap.size ≤ q)) (c_Y_timer l G bY (xs (6 * k + 1)) (EE r) (Int32.ofInt v) (EE r1) (i_Y_timer hdY (rt32 _))) f_Y_timer ti_756 ⟨rfl, rfl⟩ ⟨Nat.le_of_ble_eq_true rfl, Nat.le_of_ble_eq_true rfl⟩ ⟨hc, hsl⟩ (q_recv (L := LY) (kc := 0) (ki := 0) hK hWY okY0 rfl rfl) rfl hl.1 rfl (Nat.le_of_ble_eq_true rfl) d_L_578 (fun H locs hWY hz hkq hS => ?_)
      have hWX := hWX.apart hkq (fun q hq => off_Y hbY hq)
      refine lv_icmp_eq (tgt := 619) hx hb d_L_581 (by decide) (fun _ => ?_) (fun hne => absurd rfl hne)
      exact fin a1 r1 H locs hI1 hWX hWY hS
    by_cases hc15 : sw = (15 : Int32)
    · refine lv_tableIn (tgt := 586) hx hb d_L_33 (by rw [hc15]; decide) (by rw [hc15]; decide) (by rw [hc15]; rfl) (by decide) ?_
      obtain ⟨v, a1, r1, hdX, hdY, hI1⟩ := (hs k a r (by omega) hI (xs (6 * k + 1)).toInt (xs (6 * k + 2)).toInt (xs (6 * k + 3)).toInt (xs (6 * k + 4)).toInt (xs (6 * k + 5)).toInt (ir32 _) (ir32 _) (ir32 _) (ir32 _) (ir32 _)).2.2.2.2.2.2.2.2.2.2.2.2.2.2.2
      refine lv_aload_n hx hb d_L_586 rfl (lv_at hl 2 rfl) ?_
      refine lv_aload_n hx hb d_L_587 rfl (lv_at hl 3 rfl) ?_
      refine lv_iload_n hx hb d_L_588 rfl (lv_at hl 0 rfl) ?_
      refine lv_iconst (v := (1 : Int32)) hx hb d_L_589 (by decide) ?_
      refine lv_iadd hx hb d_L_590 ?_
      refine k_sld (j := 6 * k + 1) hx hb hX hbl hbA hS (aix_i (by omega) (aiz_at (x := ((6 * k : Nat) : Int) + 1) (by omega) (by omega)) (hAdd rfl (by decide))) d_L_591 ?_
      refine lv_aload_n hx hb d_L_592 rfl (lv_at hl 3 rfl) ?_
      refine lv_iload_n hx hb d_L_593 rfl (lv_at hl 0 rfl) ?_
      refine lv_iconst (v := (2 : Int32)) hx hb d_L_594 (by decide) ?_
      refine lv_iadd hx hb d_L_595 ?_
      refine k_sld (j := 6 * k + 2) hx hb hX hbl hbA hS (aix_i (by omega) (aiz_at (x := ((6 * k : Nat) : Int) + 2) (by omega) (by omega)) (hAdd rfl (by decide))) d_L_596 ?_
      refine k_callVi (C := "DeficitNet") (As := [.int (xs (6 * k + 1)), .int (xs (6 * k + 2))]) (rest := []) hx hb hml hown hts hK hWX hS (fun q hq => (by have := hq.1; omega : s.heap.size ≤ q)) (c_X_count l G bX (xs (6 * k + 1)) (xs (6 * k + 2)) (EE a) (Int32.ofInt v) (EE a1) (i_X_count hdX (rt32 _) (rt32 _))) f_X_count ti_458 ⟨rfl, rfl⟩ ⟨Nat.le_of_ble_eq_true rfl, Nat.le_of_ble_eq_true rfl⟩ ⟨hc, hsl⟩ (q_recv (L := LX) (kc := 0) (ki := 0) hK hWX okX0 rfl rfl) rfl hl.1 rfl (Nat.le_of_ble_eq_true rfl) d_L_597 (fun H locs hWX hz hkq hS => ?_)
      have hWY := hWY.apart hkq (fun q hq => off_X hbY hq)
      refine lv_aload_n hx hb d_L_600 rfl (lv_at hl 1 rfl) ?_
      refine lv_aload_n hx hb d_L_601 rfl (lv_at hl 3 rfl) ?_
      refine lv_iload_n hx hb d_L_602 rfl (lv_at hl 0 rfl) ?_
      refine lv_iconst (v := (1 : Int32)) hx hb d_L_603 (by decide) ?_
      refine lv_iadd hx hb d_L_604 ?_
      refine k_sld (j := 6 * k + 1) hx hb hX hbl hbA hS (aix_i (by omega) (aiz_at (x := ((6 * k : Nat) : Int) + 1) (by omega) (by omega)) (hAdd rfl (by decide))) d_L_605 ?_
      refine lv_aload_n hx hb d_L_606 rfl (lv_at hl 3 rfl) ?_
      refine lv_iload_n hx hb d_L_607 rfl (lv_at hl 0 rfl) ?_
      refine lv_iconst (v := (2 : Int32)) hx hb d_L_608 (by decide) ?_
      refine lv_iadd hx hb d_L_609 ?_
      refine k_sld (j := 6 * k + 2) hx hb hX hbl hbA hS (aix_i (by omega) (aiz_at (x := ((6 * k : Nat) : Int) + 2) (by omega) (by omega)) (hAdd rfl (by decide))) d_L_610 ?_
      refine k_callVi (C := "DeficitNetModel") (As := [.int (xs (6 * k + 1)), .int (xs (6 * k + 2))]) (rest := [.int (Int32.ofInt v)]) hx hb hml hown hts hK hWY hS (fun q hq => (by have := hq.1; omega : s.heap.size ≤ q)) (c_Y_count l G bY (xs (6 * k + 1)) (xs (6 * k + 2)) (EE r) (Int32.ofInt v) (EE r1) (i_Y_count hdY (rt32 _) (rt32 _))) f_Y_count ti_760 ⟨rfl, rfl⟩ ⟨Nat.le_of_ble_eq_true rfl, Nat.le_of_ble_eq_true rfl⟩ ⟨hc, hsl⟩ (q_recv (L := LY) (kc := 0) (ki := 0) hK hWY okY0 rfl rfl) rfl hl.1 rfl (Nat.le_of_ble_eq_true rfl) d_L_611 (fun H locs hWY hz hkq hS => ?_)
      have hWX := hWX.apart hkq (fun q hq => off_Y hbY hq)
      refine lv_icmp_eq (tgt := 619) hx hb d_L_614 (by decide) (fun _ => ?_) (fun hne => absurd rfl hne)
      exact fin a1 r1 H locs hI1 hWX hWY hS
    exact (sw_out0_15 h15 hc0 hc1 hc2 hc3 hc4 hc5 hc6 hc7 hc8 hc9 hc10 hc11 hc12 hc13 hc14 hc15).elim
