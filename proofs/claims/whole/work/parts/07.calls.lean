/-! ===== calls: of a world method (by its receiver, static), of a static method that reads no memory; the method's own end ===== -/
/-- what is known of a callee: virtual -/
def cvF (y : MethodName) (C : String) (bytes : ByteArray) (maxL : Nat) (ret : Option FieldType) (n : Nat) : Prop :=
  Cond.instanceMethod y ∈ wT ∧ Cond.selects C y y ∈ wT ∧ Cond.initialized C ∈ wT ∧ Cond.code y bytes maxL ret ∈ wT ∧ (y.cls = C ∧ y.cls ≠ "java/lang/invoke/MethodHandle" ∧ y.cls ≠ "java/lang/invoke/VarHandle" ∧ (parseMethodDescriptor y.desc).map (fun d => d.parameters.length) = some n)
/-- what is known of a callee: static -/
def csF (y : MethodName) (bytes : ByteArray) (maxL : Nat) (ret : Option FieldType) (n : Nat) : Prop :=
  Cond.static y ∈ wT ∧ Cond.initialized y.cls ∈ wT ∧ Cond.code y bytes maxL ret ∈ wT ∧ (y.cls ≠ "java/lang/invoke/MethodHandle" ∧ y.cls ≠ "java/lang/invoke/VarHandle" ∧ (parseMethodDescriptor y.desc).map (fun d => d.parameters.length) = some n)
theorem gV {own : String} {index : Nat} {C : String} {y : MethodName} {bytes : ByteArray} {maxL n : Nat} {ret : Option FieldType} (hl : Cond.methodLink own index y ∈ wT) (hf : cvF y C bytes maxL ret n) : GoodIn wT (wsV own index C y (Cond.code y bytes maxL ret :: wT)) := gT fun w hw => by
  obtain ⟨h1, h2, h3, h4, -⟩ := hf
  simp only [wsV, List.cons_append, List.nil_append, List.mem_cons] at hw
  rcases hw with rfl | rfl | rfl | rfl | rfl | hw
  · exact hl
  · exact h1
  · exact h2
  · exact h3
  · exact h4
  · exact hw
theorem gS {own : String} {index : Nat} {y : MethodName} {bytes : ByteArray} {maxL n : Nat} {ret : Option FieldType} (hl : Cond.methodLink own index y ∈ wT) (hf : csF y bytes maxL ret n) : GoodIn wT (va_wsS own index y (Cond.code y bytes maxL ret :: wT)) := gT fun w hw => by
  obtain ⟨h1, h2, h3, -⟩ := hf
  simp only [va_wsS, List.cons_append, List.nil_append, List.mem_cons] at hw
  rcases hw with rfl | rfl | rfl | rfl | hw
  · exact hl
  · exact h1
  · exact h2
  · exact h3
  · exact hw
section QCALLS
variable {p : Program} {l : Launch} {e : Env} {R : Room} {s : State} {m : MethodId} {args : Array Value} {below : List Frame} {meth : Method} {c : Code} {H : Heap} {locs : List Loc} {Q : State → Prop}
variable {cc : ByteArray} {pc nL : Nat} {ls : Array Slot} {rest st : List Value} {L : Ly} {G : GG} {b kc ki : Nat} {z z0 : Mem}
variable {y : MethodName} {bytes : ByteArray} {maxL n index : Nat} {ret : Option FieldType} {rm : Room} {own C : String} {As : List Value}
theorem q_recv {ci : Nat} {q : vw_C} {fs : List Value} (hK : va_K G.1 cls6 (tysG G) s) (hW : Wd L G b z H) (ho : okL L kc ki) (hcf : L.2.2.2.2 G.2 b kc ki (z.1 kc ki) z.2 = .inr (ci, fs)) (hc : cls6[ci]? = some q) : ∃ cell : Cell, H[ad L b kc ki]? = some cell ∧ cell.vm.isStatics = false ∧ s.vm.findClass q.1 = some cell.cls :=
  va_recv hK hW hc (q0 := L.2.2.2.1 kc ki) (fs := fs) (by rw [wl_at ho, hcf])
theorem q_callVi {r0 : Int32} {a : Nat} (hx : p.tables.exec = Jvm.exec) (hb : c.code = cc) (hml : c.maxLocals = nL) (hown : s.vm.findClass own = some m.cls) (hts : ∀ w ∈ wT, w.before args s = true) (hK : va_K G.1 cls6 (tysG G) s) (hW : Wd L G b z H) (hS : va_S (rgL L b) s.heap H locs)
    (hM : MtW l y bytes maxL ret rm L G b (.ref a :: As) z (QI L G b r0 z0)) (hf : cvF y C bytes maxL ret n) (hl : Cond.methodLink own index y ∈ wT) (hrm : rm.cells = 0 ∧ rm.slots = 0) (hR : rm.frames + 1 ≤ R.frames ∧ 8 + (maxL + 11) + rm.locals ≤ R.locals)
    (hrecv : ∃ cell : Cell, H[a]? = some cell ∧ cell.vm.isStatics = false ∧ s.vm.findClass C = some cell.cls) (hn : As.length = n) (hsz : ls.size = nL) (hstk : st = As.reverse ++ .ref a :: rest) (hst : (rest.map fun v => v.category).sum ≤ 8) (hdg : decode cc pc = .ok (.invokevirtual index, 3))
    (kk : ∀ (H1 : Heap) (locs1 : List Loc), Wd L G b z0 H1 → va_S (rgL L b) s.heap H1 locs1 → W p l e R s m args below meth c H1 locs1 0 0 Q (F0 m (pc + 3) ls (.int r0 :: rest))) : W p l e R s m args below meth c H locs 0 0 Q (F0 m pc ls st) := by
  refine va_calli (va_runV (C := C) (n := n) (As := As) (rest := rest) ⟨hx, hb, hml, hown, hts⟩ hM (cwV n hts (gV hl hf) rfl hrm.1 hrm.2 hf.2.2.2.2 hR) ⟨blindP, hrecv, fun U hU hWm => ⟨rfl, by show Wd L G b z U.heap; rw [hU]; exact hW, va_K.moved hWm.alike hK⟩⟩ rfl hn hsz hstk (lv_room hst) hdg ⟨Nat.zero_le _, Nat.zero_le _⟩) hS (fun _ _ h => h) (fun _ h => h) (fun r u t H1 locs1 ht hvm hq hB hz hk hS1 => ?_)
  obtain ⟨rfl, rfl⟩ := hq
  exact kk H1 locs1 (by rw [← ht]; exact hB.1) hS1
theorem q_callVv {a : Nat} (hx : p.tables.exec = Jvm.exec) (hb : c.code = cc) (hml : c.maxLocals = nL) (hown : s.vm.findClass own = some m.cls) (hts : ∀ w ∈ wT, w.before args s = true) (hK : va_K G.1 cls6 (tysG G) s) (hW : Wd L G b z H) (hS : va_S (rgL L b) s.heap H locs)
    (hM : MtW l y bytes maxL ret rm L G b (.ref a :: As) z (QV L G b z0)) (hf : cvF y C bytes maxL ret n) (hl : Cond.methodLink own index y ∈ wT) (hrm : rm.cells = 0 ∧ rm.slots = 0) (hR : rm.frames + 1 ≤ R.frames ∧ 8 + (maxL + 11) + rm.locals ≤ R.locals)
    (hrecv : ∃ cell : Cell, H[a]? = some cell ∧ cell.vm.isStatics = false ∧ s.vm.findClass C = some cell.cls) (hn : As.length = n) (hsz : ls.size = nL) (hstk : st = As.reverse ++ .ref a :: rest) (hst : (rest.map fun v => v.category).sum ≤ 8) (hdg : decode cc pc = .ok (.invokevirtual index, 3))
    (kk : ∀ (H1 : Heap) (locs1 : List Loc), Wd L G b z0 H1 → va_S (rgL L b) s.heap H1 locs1 → W p l e R s m args below meth c H1 locs1 0 0 Q (F0 m (pc + 3) ls rest)) : W p l e R s m args below meth c H locs 0 0 Q (F0 m pc ls st) := by
  refine va_callv (va_runV (C := C) (n := n) (As := As) (rest := rest) ⟨hx, hb, hml, hown, hts⟩ hM (cwV n hts (gV hl hf) rfl hrm.1 hrm.2 hf.2.2.2.2 hR) ⟨blindP, hrecv, fun U hU hWm => ⟨rfl, by show Wd L G b z U.heap; rw [hU]; exact hW, va_K.moved hWm.alike hK⟩⟩ rfl hn hsz hstk (lv_room hst) hdg ⟨Nat.zero_le _, Nat.zero_le _⟩) hS (fun _ _ h => h) (fun _ h => h) (fun u t H1 locs1 ht hvm hq hB hz hk hS1 => ?_)
  cases hq
  exact kk H1 locs1 (by rw [← ht]; exact hB.1) hS1
theorem q_callVj {r0 : Int64} {a : Nat} (hx : p.tables.exec = Jvm.exec) (hb : c.code = cc) (hml : c.maxLocals = nL) (hown : s.vm.findClass own = some m.cls) (hts : ∀ w ∈ wT, w.before args s = true) (hK : va_K G.1 cls6 (tysG G) s) (hW : Wd L G b z H) (hS : va_S (rgL L b) s.heap H locs)
    (hM : MtW l y bytes maxL ret rm L G b (.ref a :: As) z (QJ L G b r0 z0)) (hf : cvF y C bytes maxL ret n) (hl : Cond.methodLink own index y ∈ wT) (hrm : rm.cells = 0 ∧ rm.slots = 0) (hR : rm.frames + 1 ≤ R.frames ∧ 8 + (maxL + 11) + rm.locals ≤ R.locals)
    (hrecv : ∃ cell : Cell, H[a]? = some cell ∧ cell.vm.isStatics = false ∧ s.vm.findClass C = some cell.cls) (hn : As.length = n) (hsz : ls.size = nL) (hstk : st = As.reverse ++ .ref a :: rest) (hst : (rest.map fun v => v.category).sum ≤ 8) (hdg : decode cc pc = .ok (.invokevirtual index, 3))
    (kk : ∀ (H1 : Heap) (locs1 : List Loc), Wd L G b z0 H1 → va_S (rgL L b) s.heap H1 locs1 → W p l e R s m args below meth c H1 locs1 0 0 Q (F0 m (pc + 3) ls (.long r0 :: rest))) : W p l e R s m args below meth c H locs 0 0 Q (F0 m pc ls st) := by
  refine va_calll (va_runV (C := C) (n := n) (As := As) (rest := rest) ⟨hx, hb, hml, hown, hts⟩ hM (cwV n hts (gV hl hf) rfl hrm.1 hrm.2 hf.2.2.2.2 hR) ⟨blindP, hrecv, fun U hU hWm => ⟨rfl, by show Wd L G b z U.heap; rw [hU]; exact hW, va_K.moved hWm.alike hK⟩⟩ rfl hn hsz hstk (lv_room hst) hdg ⟨Nat.zero_le _, Nat.zero_le _⟩) hS (fun _ _ h => h) (fun _ h => h) (fun r u t H1 locs1 ht hvm hq hB hz hk hS1 => ?_)
  obtain ⟨rfl, rfl⟩ := hq
  exact kk H1 locs1 (by rw [← ht]; exact hB.1) hS1
/-- a static method over the world (Arrays.fill) -/
theorem q_callSv (hx : p.tables.exec = Jvm.exec) (hb : c.code = cc) (hml : c.maxLocals = nL) (hown : s.vm.findClass own = some m.cls) (hts : ∀ w ∈ wT, w.before args s = true) (hK : va_K G.1 cls6 (tysG G) s) (hW : Wd L G b z H) (hS : va_S (rgL L b) s.heap H locs)
    (hM : MtW l y bytes maxL ret rm L G b As z (QV L G b z0)) (hf : csF y bytes maxL ret n) (hl : Cond.methodLink own index y ∈ wT) (hrm : rm.cells = 0 ∧ rm.slots = 0) (hR : rm.frames + 1 ≤ R.frames ∧ 8 + (maxL + 11) + rm.locals ≤ R.locals)
    (hn : As.length = n) (hsz : ls.size = nL) (hstk : st = As.reverse ++ rest) (hst : (rest.map fun v => v.category).sum ≤ 8) (hdg : decode cc pc = .ok (.invokestatic index, 3))
    (kk : ∀ (H1 : Heap) (locs1 : List Loc), Wd L G b z0 H1 → va_S (rgL L b) s.heap H1 locs1 → W p l e R s m args below meth c H1 locs1 0 0 Q (F0 m (pc + 3) ls rest)) : W p l e R s m args below meth c H locs 0 0 Q (F0 m pc ls st) := by
  refine va_callv (va_runS (n := n) (As := As) (rest := rest) ⟨hx, hb, hml, hown, hts⟩ hM (va_cwS n hts (gS hl hf) rfl hrm.1 hrm.2 hf.2.2.2 hR) ⟨blindP, fun U hU hWm => ⟨rfl, by show Wd L G b z U.heap; rw [hU]; exact hW, va_K.moved hWm.alike hK⟩⟩ rfl hn hsz hstk (lv_room hst) hdg ⟨Nat.zero_le _, Nat.zero_le _⟩) hS (fun _ _ h => h) (fun _ h => h) (fun u t H1 locs1 ht hvm hq hB hz hk hS1 => ?_)
  cases hq
  exact kk H1 locs1 (by rw [← ht]; exact hB.1) hS1
/-- a static method that reads no memory, called by a world method -/
theorem q_callPi {r0 : Int32} (hx : p.tables.exec = Jvm.exec) (hb : c.code = cc) (hml : c.maxLocals = nL) (hown : s.vm.findClass own = some m.cls) (hts : ∀ w ∈ wT, w.before args s = true) (hW : Wd L G b z H) (hS : va_S (rgL L b) s.heap H locs)
    (hM : MtP l y bytes maxL ret rm As (QPI r0)) (hf : csF y bytes maxL ret n) (hl : Cond.methodLink own index y ∈ wT) (hrm : rm.cells = 0 ∧ rm.slots = 0) (hR : rm.frames + 1 ≤ R.frames ∧ 8 + (maxL + 11) + rm.locals ≤ R.locals)
    (hn : As.length = n) (hsz : ls.size = nL) (hstk : st = As.reverse ++ rest) (hst : (rest.map fun v => v.category).sum ≤ 8) (hdg : decode cc pc = .ok (.invokestatic index, 3))
    (kk : ∀ (H1 : Heap) (locs1 : List Loc), Wd L G b z H1 → va_S (rgL L b) s.heap H1 locs1 → W p l e R s m args below meth c H1 locs1 0 0 Q (F0 m (pc + 3) ls (.int r0 :: rest))) : W p l e R s m args below meth c H locs 0 0 Q (F0 m pc ls st) := by
  refine va_calli (va_runS (n := n) (As := As) (rest := rest) ⟨hx, hb, hml, hown, hts⟩ hM (va_cwS n hts (gS hl hf) rfl hrm.1 hrm.2 hf.2.2.2 hR) ⟨blindT, fun U hU hWm => ⟨rfl, trivial⟩⟩ rfl hn hsz hstk (lv_room hst) hdg ⟨Nat.zero_le _, Nat.zero_le _⟩) hS (fun _ _ h => h.elim) (fun _ h => h.elim) (fun r u t H1 locs1 ht hvm hq hB hz hk hS1 => ?_)
  cases hq
  exact kk H1 locs1 (hW.kept hk) hS1
theorem q_callPj {r0 : Int64} (hx : p.tables.exec = Jvm.exec) (hb : c.code = cc) (hml : c.maxLocals = nL) (hown : s.vm.findClass own = some m.cls) (hts : ∀ w ∈ wT, w.before args s = true) (hW : Wd L G b z H) (hS : va_S (rgL L b) s.heap H locs)
    (hM : MtP l y bytes maxL ret rm As (QPJ r0)) (hf : csF y bytes maxL ret n) (hl : Cond.methodLink own index y ∈ wT) (hrm : rm.cells = 0 ∧ rm.slots = 0) (hR : rm.frames + 1 ≤ R.frames ∧ 8 + (maxL + 11) + rm.locals ≤ R.locals)
    (hn : As.length = n) (hsz : ls.size = nL) (hstk : st = As.reverse ++ rest) (hst : (rest.map fun v => v.category).sum ≤ 8) (hdg : decode cc pc = .ok (.invokestatic index, 3))
    (kk : ∀ (H1 : Heap) (locs1 : List Loc), Wd L G b z H1 → va_S (rgL L b) s.heap H1 locs1 → W p l e R s m args below meth c H1 locs1 0 0 Q (F0 m (pc + 3) ls (.long r0 :: rest))) : W p l e R s m args below meth c H locs 0 0 Q (F0 m pc ls st) := by
  refine va_calll (va_runS (n := n) (As := As) (rest := rest) ⟨hx, hb, hml, hown, hts⟩ hM (va_cwS n hts (gS hl hf) rfl hrm.1 hrm.2 hf.2.2.2 hR) ⟨blindT, fun U hU hWm => ⟨rfl, trivial⟩⟩ rfl hn hsz hstk (lv_room hst) hdg ⟨Nat.zero_le _, Nat.zero_le _⟩) hS (fun _ _ h => h.elim) (fun _ h => h.elim) (fun r u t H1 locs1 ht hvm hq hB hz hk hS1 => ?_)
  cases hq
  exact kk H1 locs1 (hW.kept hk) hS1
/-- Math.min, Math.max: the model's own -/
theorem q_mmin (hx : p.tables.exec = Jvm.exec) (hb : c.code = cc) (hml : c.maxLocals = ls.size) (hown : s.vm.findClass own = some m.cls) (hts : ∀ w ∈ wT, w.before args s = true) (hf : csF Lib.Math.min.name Lib.Math.min.code 2 (some .int) 2) (hl : Cond.methodLink own index Lib.Math.min.name ∈ wT) (hR : 1 ≤ R.frames) (hlo : (rest.map fun v => v.category).sum + 13 ≤ R.locals) {x y v : Int32} (hv : (if y < x then some y else some x) = some v) (hdg : decode cc pc = .ok (.invokestatic index, 3))
    (kk : W p l e R s m args below meth c H locs 0 0 Q (F0 m (pc + 3) ls (.int v :: rest))) : W p l e R s m args below meth c H locs 0 0 Q (F0 m pc ls (.int y :: .int x :: rest)) := by
  refine va_mmin hx hb hml hown (hts _ hl) (hts _ hf.1) (hts _ hf.2.1) (hts _ hf.2.2.1) hR hlo (Nat.zero_le _) (Nat.zero_le _) hdg ?_
  have e : (if y < x then y else x) = v := by
    by_cases q : y < x
    · rw [if_pos q] at hv
      cases hv
      rw [if_pos q]
    · rw [if_neg q] at hv
      cases hv
      rw [if_neg q]
  rw [e]
  exact kk
theorem q_mmax (hx : p.tables.exec = Jvm.exec) (hb : c.code = cc) (hml : c.maxLocals = ls.size) (hown : s.vm.findClass own = some m.cls) (hts : ∀ w ∈ wT, w.before args s = true) (hf : csF Lib.Math.max.name Lib.Math.max.code 2 (some .int) 2) (hl : Cond.methodLink own index Lib.Math.max.name ∈ wT) (hR : 1 ≤ R.frames) (hlo : (rest.map fun v => v.category).sum + 13 ≤ R.locals) {x y v : Int32} (hv : (if x < y then some y else some x) = some v) (hdg : decode cc pc = .ok (.invokestatic index, 3))
    (kk : W p l e R s m args below meth c H locs 0 0 Q (F0 m (pc + 3) ls (.int v :: rest))) : W p l e R s m args below meth c H locs 0 0 Q (F0 m pc ls (.int y :: .int x :: rest)) := by
  refine va_mmax hx hb hml hown (hts _ hl) (hts _ hf.1) (hts _ hf.2.1) (hts _ hf.2.2.1) hR hlo (Nat.zero_le _) (Nat.zero_le _) hdg ?_
  have e : (if x < y then y else x) = v := by
    by_cases q : x < y
    · rw [if_pos q] at hv
      cases hv
      rw [if_pos q]
    · rw [if_neg q] at hv
      cases hv
      rw [if_neg q]
  rw [e]
  exact kk
/-! ===== ends ===== -/
theorem q_iret {v r0 : Int32} (hx : p.tables.exec = Jvm.exec) (hb : c.code = cc) (hr : meth.sig.returnType = some .int) (hlk : meth.locks = false) (hK : va_K G.1 cls6 (tysG G) s) (hW : Wd L G b z H) (hS : va_S (rgL L b) s.heap H locs) (h : some (v, z) = some (r0, z0)) (hdg : decode cc pc = .ok (.ireturn, 1)) :
    W p l e R s m args below meth c H locs 0 0 (MQ below (QI L G b r0 z0) args s 0 0 (rgL L b)) (F0 m pc ls [.int v]) := by
  cases h
  exact W.iret hx hb hr (fun t ht hWm => ⟨⟨v, z, rfl, ⟨rfl, rfl⟩, by show Wd L G b z t.heap; rw [ht]; exact hW, va_K.moved hWm.alike hK⟩, hS.F ht⟩) hS.2.2 hdg
theorem q_zret {v r0 : Int32} (hx : p.tables.exec = Jvm.exec) (hb : c.code = cc) (hr : meth.sig.returnType = some .boolean) (hlk : meth.locks = false) (hK : va_K G.1 cls6 (tysG G) s) (hW : Wd L G b z H) (hS : va_S (rgL L b) s.heap H locs) (hv : v = 0 ∨ v = 1) (h : some (v, z) = some (r0, z0)) (hdg : decode cc pc = .ok (.ireturn, 1)) :
    W p l e R s m args below meth c H locs 0 0 (MQ below (QI L G b r0 z0) args s 0 0 (rgL L b)) (F0 m pc ls [.int v]) := by
  cases h
  exact W.zret hx hb hr (bz_nar hv) (fun t ht hWm => ⟨⟨v, z, rfl, ⟨rfl, rfl⟩, by show Wd L G b z t.heap; rw [ht]; exact hW, va_K.moved hWm.alike hK⟩, hS.F ht⟩) hS.2.2 hdg
theorem q_jret {v r0 : Int64} (hx : p.tables.exec = Jvm.exec) (hb : c.code = cc) (hr : meth.sig.returnType = some .long) (hlk : meth.locks = false) (hK : va_K G.1 cls6 (tysG G) s) (hW : Wd L G b z H) (hS : va_S (rgL L b) s.heap H locs) (h : some (v, z) = some (r0, z0)) (hdg : decode cc pc = .ok (.lreturn, 1)) :
    W p l e R s m args below meth c H locs 0 0 (MQ below (QJ L G b r0 z0) args s 0 0 (rgL L b)) (F0 m pc ls [.long v]) := by
  cases h
  exact W.lret hx hb hr (fun t ht hWm => ⟨⟨v, z, rfl, ⟨rfl, rfl⟩, by show Wd L G b z t.heap; rw [ht]; exact hW, va_K.moved hWm.alike hK⟩, hS.F ht⟩) hS.2.2 hdg
theorem q_vret (hx : p.tables.exec = Jvm.exec) (hb : c.code = cc) (hr : meth.sig.returnType = none) (hlk : meth.locks = false) (hK : va_K G.1 cls6 (tysG G) s) (hW : Wd L G b z H) (hS : va_S (rgL L b) s.heap H locs) (h : some z = some z0) (hdg : decode cc pc = .ok (.return_, 1)) :
    W p l e R s m args below meth c H locs 0 0 (MQ below (QV L G b z0) args s 0 0 (rgL L b)) (F0 m pc ls []) := by
  cases h
  exact W.vret hx hb hr (fun t ht hWm => ⟨⟨z, rfl, rfl, by show Wd L G b z t.heap; rw [ht]; exact hW, va_K.moved hWm.alike hK⟩, hS.F ht⟩) hS.2.2 hdg
theorem q_iretP {v r0 : Int32} (hx : p.tables.exec = Jvm.exec) (hb : c.code = cc) (hr : meth.sig.returnType = some .int) (hlk : meth.locks = false) (h : some v = some r0) (hdg : decode cc pc = .ok (.ireturn, 1)) :
    W p l e R s m args below meth c s.heap [] 0 0 (MQ below (QPI r0) args s 0 0 (fun _ => False)) (F0 m pc ls [.int v]) := by
  cases h
  exact W.iret hx hb hr (fun t ht hWm => ⟨⟨v, (), rfl, rfl, trivial⟩, by rw [ht]; exact Nat.le_refl _, fun q _ _ => by rw [ht]⟩) (fun _ h => by cases h) hdg
theorem q_zretP {v r0 : Int32} (hx : p.tables.exec = Jvm.exec) (hb : c.code = cc) (hr : meth.sig.returnType = some .boolean) (hlk : meth.locks = false) (hv : v = 0 ∨ v = 1) (h : some v = some r0) (hdg : decode cc pc = .ok (.ireturn, 1)) :
    W p l e R s m args below meth c s.heap [] 0 0 (MQ below (QPI r0) args s 0 0 (fun _ => False)) (F0 m pc ls [.int v]) := by
  cases h
  exact W.zret hx hb hr (bz_nar hv) (fun t ht hWm => ⟨⟨v, (), rfl, rfl, trivial⟩, by rw [ht]; exact Nat.le_refl _, fun q _ _ => by rw [ht]⟩) (fun _ h => by cases h) hdg
theorem q_jretP {v r0 : Int64} (hx : p.tables.exec = Jvm.exec) (hb : c.code = cc) (hr : meth.sig.returnType = some .long) (hlk : meth.locks = false) (h : some v = some r0) (hdg : decode cc pc = .ok (.lreturn, 1)) :
    W p l e R s m args below meth c s.heap [] 0 0 (MQ below (QPJ r0) args s 0 0 (fun _ => False)) (F0 m pc ls [.long v]) := by
  cases h
  exact W.lret hx hb hr (fun t ht hWm => ⟨⟨v, (), rfl, rfl, trivial⟩, by rw [ht]; exact Nat.le_refl _, fun q _ _ => by rw [ht]⟩) (fun _ h => by cases h) hdg
end QCALLS
