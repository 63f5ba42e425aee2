/-! ===== calls over any region: of a constructor, of a world method ===== -/
abbrev MtI (l : Launch) (y : MethodName) (bytes : ByteArray) (maxL : Nat) (rm : Room) (G : GG) (pre : va_E) (w : Nat) (post : Nat → Nat → va_E) (mc ms : Nat) (b : Nat) : Prop :=
  Met l y (Cond.code y bytes maxL none :: wT) rm (va_Pc [.ref b] (fun U => Bd G 1 b (fun _ => pre) U.heap ∧ va_K G.1 cls6 (tysG G) U)) (va_Qv (fun _ : Unit => True) (fun _ U => Bd G w b (post b) U.heap ∧ va_K G.1 cls6 (tysG G) U) (fun q => b ≤ q)) mc ms (fun q => b ≤ q)
section KCALLS
variable {p : Program} {l : Launch} {e : Env} {R : Room} {s : State} {m : MethodId} {args : Array Value} {below : List Frame} {meth : Method} {c : Code} {H : Heap} {locs : List Loc} {cells slots : Nat} {Q : State → Prop}
variable {cc : ByteArray} {pc nL : Nat} {ls : Array Slot} {rest st : List Value} {L : Ly} {G : GG} {b kc ki n0 : Nat} {z z0 : Mem} {cs : Nat → va_E} {A : Nat → Prop} {H0 : Heap}
variable {y : MethodName} {bytes : ByteArray} {maxL n index mc ms : Nat} {ret : Option FieldType} {rm : Room} {own C host : String} {As : List Value}
theorem gI (hf : Cond.code y bytes maxL ret ∈ wT) : GoodIn wT (Cond.code y bytes maxL ret :: wT) := gT fun w hw => by
  rcases List.mem_cons.mp hw with rfl | h
  · exact hf
  · exact h
/-- a nest mate's constructor over the newest cell -/
theorem k_initN {pre : va_E} {w : Nat} {post : Nat → Nat → va_E} (hx : p.tables.exec = Jvm.exec) (hb : c.code = cc) (hml : c.maxLocals = nL) (hown : s.vm.findClass own = some m.cls) (hts : ∀ w ∈ wT, w.before args s = true) (hK : va_K G.1 cls6 (tysG G) s) (hB : Bd G (n0 + 1) b cs H) (hS : va_S A H0 H locs) (hA : ∀ q, b ≤ q → A q)
    (hM : MtI l y bytes maxL rm G pre w post mc ms (b + n0)) (hpre : cs n0 = pre) (hcw : Cond.code y bytes maxL none ∈ wT) (hiw : Cond.initialized y.cls ∈ wT) (hmw : Cond.instanceMethod y ∈ wT) (hl : va_Nw (.methodLinkNest own index y host) s) (hd : y.cls ≠ "java/lang/invoke/MethodHandle" ∧ y.cls ≠ "java/lang/invoke/VarHandle" ∧ (parseMethodDescriptor y.desc).map (fun d => d.parameters.length) = some 0) (hy : y.name = "<init>")
    (hrm : rm.cells = mc ∧ rm.slots = ms) (hR : rm.frames + 1 ≤ R.frames ∧ 8 + (maxL + 11) + rm.locals ≤ R.locals) (hc : cells + mc ≤ R.cells ∧ slots + ms ≤ R.slots) (hsz : ls.size = nL) (hst : (rest.map fun v => v.category).sum ≤ 8) (hdg : decode cc pc = .ok (.invokespecial index, 3))
    {cs1 : Nat → va_E} (h1 : ∀ k, k < n0 → cs1 k = cs k) (h2 : ∀ j, j < w → cs1 (n0 + j) = post (b + n0) j)
    (kk : ∀ (H1 : Heap) (locs1 : List Loc), Bd G (n0 + w) b cs1 H1 → va_S A H0 H1 locs1 → W p l e R s m args below meth c H1 locs1 (cells + mc) (slots + ms) Q (F0 m (pc + 3) ls rest)) : W p l e R s m args below meth c H locs cells slots Q (F0 m pc ls (.ref (b + n0) :: rest)) := by
  refine va_callv (va_runIN (host := host) (n := 0) (As := []) (rest := rest) ⟨hx, hb, hml, hown, hts⟩ hM ⟨va_cnB 0 hts (gI hcw) rfl hrm.1 hrm.2 hl (hts _ hiw) hd hR, hy, hts _ hmw⟩ ⟨fun a U g mk q => ⟨q.1, q.2.1, va_K.moved (u := U) (U := U.calling g mk a) (Vm.Alike.refl U.vm) q.2.2⟩, fun U hU hWm => ⟨rfl, ?_, va_K.moved hWm.alike hK⟩⟩ rfl rfl hsz rfl (lv_room hst) hdg hc) hS (fun q _ h => hA q (Nat.le_trans (Nat.le_add_right _ _) h)) (fun q h => hA q (Nat.le_trans (Nat.le_add_right _ _) h)) (fun u t H1 locs1 ht hvm hq hBt hz hk hS1 => ?_)
  · rw [hU]
    refine ⟨by rw [hB.1]; omega, fun k hk => ?_⟩
    have e0 : k = 0 := by omega
    subst e0
    have := hB.2 n0 (by omega)
    rw [hpre] at this
    exact this
  · rw [ht] at hBt
    refine kk H1 locs1 ⟨by rw [hBt.1.1]; omega, fun k hk2 => ?_⟩ hS1
    by_cases c1 : k < n0
    · rw [h1 k c1]
      exact (hB.2 k (by omega)).kept (hk _ (by rw [hB.1]; show b + k < b + (n0 + 1); omega) (by show ¬ b + n0 ≤ b + k; omega))
    · have e1 : k = n0 + (k - n0) := by omega
      rw [e1, h2 (k - n0) (by omega), show b + (n0 + (k - n0)) = b + n0 + (k - n0) by omega]
      exact hBt.1.2 (k - n0) (by omega)
theorem k_callVv {a : Nat} (hx : p.tables.exec = Jvm.exec) (hb : c.code = cc) (hml : c.maxLocals = nL) (hown : s.vm.findClass own = some m.cls) (hts : ∀ w ∈ wT, w.before args s = true) (hK : va_K G.1 cls6 (tysG G) s) (hW : Wd L G b z H) (hS : va_S A H0 H locs) (hA : ∀ q, rgL L b q → A q)
    (hM : MtW l y bytes maxL ret rm L G b (.ref a :: As) z (QV L G b z0)) (hf : cvF y C bytes maxL ret n) (hl : Cond.methodLink own index y ∈ wT) (hrm : rm.cells = 0 ∧ rm.slots = 0) (hR : rm.frames + 1 ≤ R.frames ∧ 8 + (maxL + 11) + rm.locals ≤ R.locals) (hc : cells ≤ R.cells ∧ slots ≤ R.slots)
    (hrecv : ∃ cell : Cell, H[a]? = some cell ∧ cell.vm.isStatics = false ∧ s.vm.findClass C = some cell.cls) (hn : As.length = n) (hsz : ls.size = nL) (hstk : st = As.reverse ++ .ref a :: rest) (hst : (rest.map fun v => v.category).sum ≤ 8) (hdg : decode cc pc = .ok (.invokevirtual index, 3))
    (kk : ∀ (H1 : Heap) (locs1 : List Loc), Wd L G b z0 H1 → H.size ≤ H1.size → (∀ q, q < H.size → ¬ rgL L b q → H1[q]? = H[q]?) → va_S A H0 H1 locs1 → W p l e R s m args below meth c H1 locs1 cells slots Q (F0 m (pc + 3) ls rest)) : W p l e R s m args below meth c H locs cells slots Q (F0 m pc ls st) := by
  refine va_callv (va_runV (C := C) (n := n) (As := As) (rest := rest) ⟨hx, hb, hml, hown, hts⟩ hM (cwV n hts (gV hl hf) rfl hrm.1 hrm.2 hf.2.2.2.2 hR) ⟨blindP, hrecv, fun U hU hWm => ⟨rfl, by show Wd L G b z U.heap; rw [hU]; exact hW, va_K.moved hWm.alike hK⟩⟩ rfl hn hsz hstk (lv_room hst) hdg hc) hS (fun q _ h => hA q h) hA (fun u t H1 locs1 ht hvm hq hB hz hk hS1 => ?_)
  cases hq
  exact kk H1 locs1 (by rw [← ht]; exact hB.1) hz hk hS1
theorem k_callVi {a : Nat} {r0 : Int32} (hx : p.tables.exec = Jvm.exec) (hb : c.code = cc) (hml : c.maxLocals = nL) (hown : s.vm.findClass own = some m.cls) (hts : ∀ w ∈ wT, w.before args s = true) (hK : va_K G.1 cls6 (tysG G) s) (hW : Wd L G b z H) (hS : va_S A H0 H locs) (hA : ∀ q, rgL L b q → A q)
    (hM : MtW l y bytes maxL ret rm L G b (.ref a :: As) z (QI L G b r0 z0)) (hf : cvF y C bytes maxL ret n) (hl : Cond.methodLink own index y ∈ wT) (hrm : rm.cells = 0 ∧ rm.slots = 0) (hR : rm.frames + 1 ≤ R.frames ∧ 8 + (maxL + 11) + rm.locals ≤ R.locals) (hc : cells ≤ R.cells ∧ slots ≤ R.slots)
    (hrecv : ∃ cell : Cell, H[a]? = some cell ∧ cell.vm.isStatics = false ∧ s.vm.findClass C = some cell.cls) (hn : As.length = n) (hsz : ls.size = nL) (hstk : st = As.reverse ++ .ref a :: rest) (hst : (rest.map fun v => v.category).sum ≤ 8) (hdg : decode cc pc = .ok (.invokevirtual index, 3))
    (kk : ∀ (H1 : Heap) (locs1 : List Loc), Wd L G b z0 H1 → H.size ≤ H1.size → (∀ q, q < H.size → ¬ rgL L b q → H1[q]? = H[q]?) → va_S A H0 H1 locs1 → W p l e R s m args below meth c H1 locs1 cells slots Q (F0 m (pc + 3) ls (.int r0 :: rest))) : W p l e R s m args below meth c H locs cells slots Q (F0 m pc ls st) := by
  refine va_calli (va_runV (C := C) (n := n) (As := As) (rest := rest) ⟨hx, hb, hml, hown, hts⟩ hM (cwV n hts (gV hl hf) rfl hrm.1 hrm.2 hf.2.2.2.2 hR) ⟨blindP, hrecv, fun U hU hWm => ⟨rfl, by show Wd L G b z U.heap; rw [hU]; exact hW, va_K.moved hWm.alike hK⟩⟩ rfl hn hsz hstk (lv_room hst) hdg hc) hS (fun q _ h => hA q h) hA (fun r u t H1 locs1 ht hvm hq hB hz hk hS1 => ?_)
  obtain ⟨rfl, rfl⟩ := hq
  exact kk H1 locs1 (by rw [← ht]; exact hB.1) hz hk hS1
theorem k_callVj {a : Nat} {r0 : Int64} (hx : p.tables.exec = Jvm.exec) (hb : c.code = cc) (hml : c.maxLocals = nL) (hown : s.vm.findClass own = some m.cls) (hts : ∀ w ∈ wT, w.before args s = true) (hK : va_K G.1 cls6 (tysG G) s) (hW : Wd L G b z H) (hS : va_S A H0 H locs) (hA : ∀ q, rgL L b q → A q)
    (hM : MtW l y bytes maxL ret rm L G b (.ref a :: As) z (QJ L G b r0 z0)) (hf : cvF y C bytes maxL ret n) (hl : Cond.methodLink own index y ∈ wT) (hrm : rm.cells = 0 ∧ rm.slots = 0) (hR : rm.frames + 1 ≤ R.frames ∧ 8 + (maxL + 11) + rm.locals ≤ R.locals) (hc : cells ≤ R.cells ∧ slots ≤ R.slots)
    (hrecv : ∃ cell : Cell, H[a]? = some cell ∧ cell.vm.isStatics = false ∧ s.vm.findClass C = some cell.cls) (hn : As.length = n) (hsz : ls.size = nL) (hstk : st = As.reverse ++ .ref a :: rest) (hst : (rest.map fun v => v.category).sum ≤ 8) (hdg : decode cc pc = .ok (.invokevirtual index, 3))
    (kk : ∀ (H1 : Heap) (locs1 : List Loc), Wd L G b z0 H1 → H.size ≤ H1.size → (∀ q, q < H.size → ¬ rgL L b q → H1[q]? = H[q]?) → va_S A H0 H1 locs1 → W p l e R s m args below meth c H1 locs1 cells slots Q (F0 m (pc + 3) ls (.long r0 :: rest))) : W p l e R s m args below meth c H locs cells slots Q (F0 m pc ls st) := by
  refine va_calll (va_runV (C := C) (n := n) (As := As) (rest := rest) ⟨hx, hb, hml, hown, hts⟩ hM (cwV n hts (gV hl hf) rfl hrm.1 hrm.2 hf.2.2.2.2 hR) ⟨blindP, hrecv, fun U hU hWm => ⟨rfl, by show Wd L G b z U.heap; rw [hU]; exact hW, va_K.moved hWm.alike hK⟩⟩ rfl hn hsz hstk (lv_room hst) hdg hc) hS (fun q _ h => hA q h) hA (fun r u t H1 locs1 ht hvm hq hB hz hk hS1 => ?_)
  obtain ⟨rfl, rfl⟩ := hq
  exact kk H1 locs1 (by rw [← ht]; exact hB.1) hz hk hS1
end KCALLS
