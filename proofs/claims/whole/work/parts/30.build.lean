/-! ===== a world under construction: n cells from b on, and the heap ends behind them ===== -/
def Bd (G : GG) (n b : Nat) (cs : Nat → va_E) (H : Heap) : Prop := H.size = b + n ∧ ∀ k, k < n → va_at G.1 cls6 (b + k, cs k) H
def fw (n b : Nat) (cs : Nat → va_E) : va_W := (List.range n).map fun k => (b + k, cs k)
theorem fw_get {n b k : Nat} {cs : Nat → va_E} (hk : k < n) : (fw n b cs)[k]? = some (b + k, cs k) := by
  unfold fw
  rw [List.getElem?_map, List.getElem?_range hk]
  rfl
theorem fw_key {n b k : Nat} {cs : Nat → va_E} {q : Nat × va_E} (h : (fw n b cs)[k]? = some q) : k < n ∧ q = (b + k, cs k) := by
  unfold fw at h
  rw [List.getElem?_map] at h
  by_cases hk : k < n
  · rw [List.getElem?_range hk] at h
    cases h
    exact ⟨hk, rfl⟩
  · rw [List.getElem?_eq_none (by rw [List.length_range]; omega)] at h
    cases h
theorem fw_len (n b : Nat) (cs : Nat → va_E) : (fw n b cs).length = n := by simp [fw]
theorem Bd.P {G : GG} {n b : Nat} {cs : Nat → va_E} {H : Heap} (h : Bd G n b cs H) : va_P G.1 cls6 (fw n b cs) H := fun k q hq => by
  obtain ⟨hk, rfl⟩ := fw_key hq
  exact h.2 k hk
theorem Bd.of {G : GG} {n b : Nat} {cs : Nat → va_E} {H : Heap} (hz : H.size = b + n) (h : va_P G.1 cls6 (fw n b cs) H) : Bd G n b cs H := ⟨hz, fun k hk => h k _ (fw_get hk)⟩
theorem fw_D {n b : Nat} {cs : Nat → va_E} {A : Nat → Prop} (hA : ∀ q, b ≤ q → A q) : va_D A (fw n b cs) := by
  refine ⟨fun i j x y hi hj hxy => ?_, fun k q hk => ?_⟩
  · obtain ⟨-, rfl⟩ := fw_key hi
    obtain ⟨-, rfl⟩ := fw_key hj
    have h : b + i = b + j := hxy
    omega
  · obtain ⟨-, rfl⟩ := fw_key hk
    exact hA _ (Nat.le_add_right _ _)
theorem Bd.congr {G : GG} {n b : Nat} {cs cs1 : Nat → va_E} {H : Heap} (h : Bd G n b cs H) (e : ∀ k, k < n → cs1 k = cs k) : Bd G n b cs1 H := ⟨h.1, fun k hk => by rw [e k hk]; exact h.2 k hk⟩
theorem fw_set {n b k : Nat} {cs cs1 : Nat → va_E} {x : va_E} (hk : k < n) (h1 : cs1 k = x) (h2 : ∀ j, j < n → j ≠ k → cs1 j = cs j) : (fw n b cs).set k (b + k, x) = fw n b cs1 := by
  apply List.ext_getElem?
  intro i
  by_cases e : k = i
  · subst e
    rw [List.getElem?_set_self (by rw [fw_len]; exact hk), fw_get hk, h1]
  · rw [List.getElem?_set_ne e]
    by_cases hi : i < n
    · rw [fw_get hi, fw_get hi, h2 i hi (fun q => e q.symm)]
    · rw [List.getElem?_eq_none (by rw [fw_len]; omega), List.getElem?_eq_none (by rw [fw_len]; omega)]
theorem Bd.grow {G : GG} {n b : Nat} {cs : Nat → va_E} {H H1 : Heap} (h : Bd G n b cs H) (z : H1.size = H.size + 1) (o : ∀ q, q < H.size → H1[q]? = H[q]?) (hn : va_at G.1 cls6 (b + n, cs n) H1) : Bd G (n + 1) b cs H1 := by
  refine ⟨by rw [z, h.1]; omega, fun k hk => ?_⟩
  by_cases e : k = n
  · subst e; exact hn
  · have hk1 : k < n := by omega
    exact (h.2 k hk1).kept (o _ (by rw [h.1]; show b + k < b + n; omega))
theorem Bd.kept {G : GG} {n b : Nat} {cs : Nat → va_E} {H H1 : Heap} (h : Bd G n b cs H) (z : H1.size = H.size) (o : ∀ q, q < H.size → H1[q]? = H[q]?) : Bd G n b cs H1 :=
  ⟨z.trans h.1, fun k hk => (h.2 k hk).kept (o _ (by rw [h.1]; show b + k < b + n; omega))⟩
/-- the array class of arrays of ints, as the tables have it -/
def aoI (U : State) : Prop := (Cond.arrayOver (.array .int)).before #[] U = true
theorem aoI_spec {u : State} (h : aoI u) : ∃ (comp c : ClassId) (k : Class) (x : ClassId), u.vm.findClass (FieldType.array .int).toString = some comp ∧ (u.vm.classes.findIdx? fun (x : Class) => match x.kind with | .array component _ => component == comp | _ => false) = some c ∧ u.vm.classes[c]? = some k ∧ k.kind = .array x (.array .int) ∧ u.vm.findClass ("[" ++ (FieldType.array .int).toString) = some c := by
  unfold aoI Cond.before Cond.holds at h
  simp only [Cond.value, beq_iff_eq] at h
  cases hc : u.vm.findClass (FieldType.array .int).toString with
  | none => rw [hc] at h; cases h
  | some comp =>
    simp only [hc, Option.bind_some, Option.bind_eq_some_iff, Option.map_eq_some_iff] at h
    obtain ⟨c, hi, k, hk, hb⟩ := h
    cases hkind : k.kind with
    | array x ty =>
      rw [hkind] at hb
      simp only [Bool.and_eq_true, decide_eq_true_eq] at hb
      obtain ⟨rfl, h2⟩ := hb
      exact ⟨comp, c, k, x, rfl, hi, hk, hkind, h2⟩
    | _ => rw [hkind] at hb; cases hb
theorem aoI_moved {u U : State} (hvm : u.vm.Alike U.vm) (h : aoI u) : aoI U := by
  obtain ⟨comp, c, k, x, h1, h2, h3, h4, h5⟩ := aoI_spec h
  obtain ⟨k', hk', he⟩ := hvm.2.2 _ _ h3
  have hi : (U.vm.classes.findIdx? fun (x : Class) => match x.kind with | .array component _ => component == comp | _ => false) = some c := by
    have e1 := va_idx_bare U.vm comp
    have e2 := va_idx_bare u.vm comp
    have e3 : U.vm.bare = u.vm.bare := by first | exact hvm.bare_eq | exact hvm.bare_eq.symm
    rw [e3] at e1
    exact e1.symm.trans (e2.trans h2)
  have hkind : k'.kind = .array x (.array .int) := by rw [he]; exact h4
  have f1 : U.vm.findClass (FieldType.array .int).toString = some comp := by rw [hvm.findClass]; exact h1
  have f2 : U.vm.findClass ("[" ++ (FieldType.array .int).toString) = some c := by rw [hvm.findClass]; exact h5
  unfold aoI Cond.before Cond.holds
  simp only [Cond.value]
  rw [f1, Option.bind_some]
  refine (congrArg (fun o : Option Nat => (o.bind (fun c => (U.vm.classes[c]?).map fun (k : Class) => match k.kind with | .array _ ty => decide (ty = FieldType.array .int) && decide (U.vm.findClass ("[" ++ (FieldType.array .int).toString) = some c) | _ => false) == some true)) hi).trans ?_
  simp [hk', hkind, f2]
section KROWS
variable {p : Program} {l : Launch} {e : Env} {R : Room} {s : State} {m : MethodId} {args : Array Value} {below : List Frame} {meth : Method} {c : Code} {H : Heap} {locs : List Loc} {cells slots : Nat} {Q : State → Prop}
variable {cc : ByteArray} {pc : Nat} {ls : Array Slot} {rest st : List Value} {G : GG} {b n : Nat} {cs : Nat → va_E} {A : Nat → Prop} {H0 : Heap}
theorem S_grow {H1 : Heap} (hS : va_S A H0 H locs) (z : H.size ≤ H1.size) (o : ∀ q, q < H.size → H1[q]? = H[q]?) : va_S A H0 H1 locs :=
  ⟨Nat.le_trans hS.1 z, fun x h1 h2 => (o x (Nat.lt_of_lt_of_le h1 hS.1)).trans (hS.2.1 x h1 h2), hS.2.2⟩
theorem k_newa (hx : p.tables.exec = Jvm.exec) (hb : c.code = cc) {atype : ArrayType} (harr : (Cond.arrayClass (newarray.typeOf atype)).before args s = true) {t0 : Nat} (ht : (tysG G)[t0]? = some (G.2 t0, newarray.typeOf atype)) (hK : va_K G.1 cls6 (tysG G) s) (hB : Bd G n b cs H) (hS : va_S A H0 H locs)
    {x : Int32} {N : Nat} {a0 : vp_A} (hc : cs n = .inl (G.2 t0, a0)) (ha : ∀ cA : ClassId, vp_cell cA a0 = arrV cA N (fun _ => defaultValue (newarray.typeOf atype))) (hn : ¬ x < 0) (hN : x.toNatClampNeg = N) (hbytes : N * componentBytes (newarray.typeOf atype) ≤ 536870912) (hcells : cells + 1 ≤ R.cells) (hslots : slots + N ≤ R.slots) (hdg : decode cc pc = .ok (.newarray atype, 2))
    (kk : ∀ H1 : Heap, Bd G (n + 1) b cs H1 → va_S A H0 H1 locs → W p l e R s m args below meth c H1 locs (cells + 1) (slots + N) Q (F0 m (pc + 2) ls (.ref (b + n) :: rest))) : W p l e R s m args below meth c H locs cells slots Q (F0 m pc ls (.int x :: rest)) := by
  refine va_newaK hx hb harr rfl hdg rfl hn hN hbytes hcells hslots rfl fun H1 cA e1 z1 o1 hAr hNm => ?_
  have h1 : va_RA s (G.2 t0) (newarray.typeOf atype) := (hK.2 t0 _ ht).2
  have h2 : s.vm.findClass ("[" ++ (newarray.typeOf atype).toString) = some (G.2 t0) := by cases atype <;> exact h1
  have hcA : cA = G.2 t0 := Option.some.inj (hNm.symm.trans h2)
  have k2 := kk H1 (hB.grow z1 o1 (by
    rw [hc]
    show H1[b + n]? = some (vp_cell (G.2 t0) a0)
    rw [ha, ← hB.1, ← hcA]
    exact e1)) (S_grow hS (by omega) o1)
  rw [← hB.1] at k2
  exact k2
theorem k_newq (hx : p.tables.exec = Jvm.exec) (hb : c.code = cc) {own C : String} {index : Nat} (hown : s.vm.findClass own = some m.cls) (hclink : (Cond.classLink own index C).before args s = true) (hover : va_AO C s) {t0 : Nat} (ht : (tysG G)[t0]? = some (G.2 t0, .object C)) (hK : va_K G.1 cls6 (tysG G) s) (hB : Bd G n b cs H) (hS : va_S A H0 H locs)
    {x : Int32} {N : Nat} (hc : cs n = .inl (G.2 t0, N, .inr (.inr (.inr (.inr (fun _ => none)))))) (hn : ¬ x < 0) (hN : x.toNatClampNeg = N) (hbytes : N * 4 ≤ 536870912) (hcells : cells + 1 ≤ R.cells) (hslots : slots + N ≤ R.slots) (hdg : decode cc pc = .ok (.anewarray index, 3))
    (kk : ∀ H1 : Heap, Bd G (n + 1) b cs H1 → va_S A H0 H1 locs → W p l e R s m args below meth c H1 locs (cells + 1) (slots + N) Q (F0 m (pc + 3) ls (.ref (b + n) :: rest))) : W p l e R s m args below meth c H locs cells slots Q (F0 m pc ls (.int x :: rest)) := by
  subst hN
  refine W.anew hx hb hown hclink (va_AO.use hover) rfl hdg rfl hn hbytes hcells hslots fun cA kA comp f1 f2 f3 f4 => ?_
  generalize hH1 : H.push ({ cls := cA, slots := Array.replicate x.toNatClampNeg .null, vm := .none } : Cell) = H1
  have z1 : H1.size = H.size + 1 := by rw [← hH1, Array.size_push]
  have e1 : H1[H.size]? = some (arrV cA x.toNatClampNeg (fun _ => .null)) := by rw [← hH1, Array.getElem?_push_size, ← arrV_new]
  have o1 : ∀ q : Nat, q < H.size → H1[q]? = H[q]? := fun q hq => by rw [← hH1, Array.getElem?_push, if_neg (Nat.ne_of_lt hq)]
  obtain ⟨kA2, comp2, g1, g2, g3, g4⟩ := (hK.2 t0 _ ht).2
  have hcA : cA = G.2 t0 := Option.some.inj (f1.symm.trans g4)
  have k2 := kk H1 (hB.grow z1 o1 (by
    rw [hc]
    show H1[b + n]? = some (vp_cell (G.2 t0) _)
    rw [vp_cell_q, ← hB.1, ← hcA]
    exact e1)) (S_grow hS (by omega) o1)
  rw [← hB.1] at k2
  exact k2
theorem k_new (hx : p.tables.exec = Jvm.exec) (hb : c.code = cc) {own C : String} {T : u_T} {N ci index : Nat} (hts : ∀ w ∈ wT, w.before args s = true) (hin : ∀ w ∈ u_ws C T N, w ∈ wT) (ty : Nat → FieldType) (hty : ∀ k, k < N → parseFieldDescriptor (T k).2.2.1 = some (ty k)) (hown : s.vm.findClass own = some m.cls) (hcl : (Cond.classLink own index C).before args s = true) (hinst : (Cond.instantiable C N).before args s = true) (hini : (Cond.initialized C).before args s = true)
    (hK : va_K G.1 cls6 (tysG G) s) (hB : Bd G n b cs H) (hS : va_S A H0 H locs) (hc : cls6[ci]? = some (C, T, N)) {fs : List Value} (hcs : cs n = .inr (ci, fs)) (hfs : ∀ j, j < N → defaultValue (ty j) = vp_V fs j) (hcells : cells + 1 ≤ R.cells) (hslots : slots + N ≤ R.slots) (hdg : decode cc pc = .ok (.new index, 3))
    (kk : ∀ H1 : Heap, Bd G (n + 1) b cs H1 → va_S A H0 H1 locs → W p l e R s m args below meth c H1 locs (cells + 1) (slots + N) Q (F0 m (pc + 3) ls (.ref (b + n) :: rest))) : W p l e R s m args below meth c H locs cells slots Q (F0 m pc ls rest) := by
  have hKn := hK.1 ci _ hc
  refine W.newcK hx hb hown hcl hinst hini rfl hdg hcells hslots hKn.2.1 rfl fun H1 kC hkC e1 z1 o1 => ?_
  have k2 := kk H1 (hB.grow z1 o1 (by
    rw [hcs, ← hB.1]
    exact ⟨_, hc, (u_born ty hts hin hKn hkC e1 hty).to hfs⟩)) (S_grow hS (by omega) o1)
  rw [← hB.1] at k2
  exact k2
/-- new int[8][8] -/
theorem k_mna (hx : p.tables.exec = Jvm.exec) (hb : c.code = cc) {own : String} {index : Nat} (hown : s.vm.findClass own = some m.cls) (hclink : (Cond.classLink own index ("[" ++ (FieldType.array .int).toString)).before args s = true) (hover : aoI s) (harr : (Cond.arrayClass .int).before args s = true) (hK : va_K G.1 cls6 (tysG G) s) (hB : Bd G n b cs H) (hS : va_S A H0 H locs)
    {x y : Int32} {N K : Nat} (hn : ¬ x < 0) (hk : ¬ y < 0) (hN : x.toNatClampNeg = N) (hM : y.toNatClampNeg = K) (hb1 : N * 4 ≤ 536870912) (hb2 : K * componentBytes .int ≤ 536870912) (hb3 : K ≤ 536870912) (hcells : cells + (1 + N) ≤ R.cells) (hslots : slots + (N + N * K) ≤ R.slots)
    {rf : Nat → Nat} (hrf : ∀ i, rf i = b + n + 1 + i) (hc0 : cs n = .inl (G.2 3, N, .inr (.inr (.inr (.inr (fun i => if i < N then some (rf i) else none)))))) (hr : ∀ i, i < N → cs (n + 1 + i) = .inl (G.2 0, K, .inl (fun _ => 0))) (hdg : decode cc pc = .ok (.multianewarray index 2, 4))
    (kk : ∀ H1 : Heap, Bd G (n + 1 + N) b cs H1 → va_S A H0 H1 locs → W p l e R s m args below meth c H1 locs (cells + 1 + N) (slots + N + N * K) Q (F0 m (pc + 4) ls (.ref (b + n) :: rest))) : W p l e R s m args below meth c H locs cells slots Q (F0 m pc ls (.int y :: .int x :: rest)) := by
  subst hN
  subst hM
  have hc : cs n = .inl (G.2 3, x.toNatClampNeg, .inr (.inr (.inr (.inr (fun i => if i < x.toNatClampNeg then some (b + n + 1 + i) else none))))) := by
    rw [hc0]
    simp only [hrf]
  intro T hT Xs
  obtain ⟨vm₁, cA, comp, -, fA, fC, hO, -, X', step⟩ := Xs.multianewarray2F hx hown hclink (show (Cond.arrayOver (.array .int)).before args s = true from hover) harr (g := F0 m pc ls (.int y :: .int x :: rest)) rfl (by rw [hb]; exact hdg) rfl hn hk hb1 hb2 hb3 rfl rfl hcells hslots
  have r3 : s.vm.findClass ("[" ++ (FieldType.array .int).toString) = some (G.2 3) := (hK.2 3 _ rfl).2
  have r0 : s.vm.findClass ("[" ++ FieldType.int.toString) = some (G.2 0) := (hK.2 0 _ rfl).2
  have ecA : cA = G.2 3 := Option.some.inj (fA.symm.trans r3)
  have ecC : comp = G.2 0 := Option.some.inj (fC.symm.trans r0)
  subst ecA
  subst ecC
  generalize hF : Jvm.Free.Multi.fill (T.setVm vm₁) (G.2 3) (G.2 0) x.toNatClampNeg y.toNatClampNeg (defaultValue .int) x.toNatClampNeg = F at X' step
  have hTh : (T.setVm vm₁).heap = H := hT
  obtain ⟨f1, f2, -, -⟩ := Jvm.Free.Multi.fill_facts (T.setVm vm₁) (G.2 3) (G.2 0) x.toNatClampNeg y.toNatClampNeg (defaultValue .int) x.toNatClampNeg
  rw [hF, hTh] at f1 f2
  have hold : ∀ q : Nat, q < H.size → F.heap[q]? = H[q]? := fun q hq => by
    have := Jvm.Free.Multi.fill_old (T.setVm vm₁) (G.2 3) (G.2 0) x.toNatClampNeg y.toNatClampNeg (defaultValue .int) (a := q) (by rw [hTh]; exact hq) x.toNatClampNeg
    rw [hF, hTh] at this
    exact this
  have hrow : ∀ j : Nat, j < x.toNatClampNeg → F.heap[H.size + 1 + j]? = some (Jvm.Free.Multi.innerC (G.2 0) y.toNatClampNeg (defaultValue .int)) := fun j hj => by
    have := Jvm.Free.Multi.fill_inner (T.setVm vm₁) (G.2 3) (G.2 0) x.toNatClampNeg y.toNatClampNeg (defaultValue .int) x.toNatClampNeg j hj
    rw [hF, hTh] at this
    exact this
  have hout : ∀ i : Nat, Jvm.Free.Multi.outerC (G.2 3) x.toNatClampNeg H.size i = arrV (G.2 3) x.toNatClampNeg (fun j => va_rf (if j < i then some (H.size + 1 + j) else none)) := by
    intro i
    induction i with
    | zero =>
      show ({ cls := G.2 3, slots := Array.replicate x.toNatClampNeg .null, vm := .none } : Cell) = _
      rw [arrV_new]
      refine congrArg (arrV (G.2 3) x.toNatClampNeg) (funext fun j => ?_)
      simp [va_rf]
    | succ i ih =>
      show (Jvm.Free.Multi.outerC (G.2 3) x.toNatClampNeg H.size i).setSlot i (.ref (H.size + 1 + i)) = _
      rw [ih, arrV_store]
      refine congrArg (arrV (G.2 3) x.toNatClampNeg) (funext fun j => ?_)
      by_cases q : j = i
      · subst q
        simp [updV, va_rf]
      · by_cases w : j < i
        · simp [updV, q, w, Nat.lt_succ_of_lt w]
        · simp [updV, q, w, show ¬ j < i + 1 by omega]
  have hz := hB.1
  obtain ⟨t, a1, b1⟩ := kk F.heap ⟨by rw [f1, hz]; omega, fun k hk2 => by
      by_cases c1 : k < n
      · exact (hB.2 k c1).kept (hold _ (by rw [hz]; show b + k < b + n; omega))
      · by_cases c2 : k = n
        · subst c2
          rw [hc]
          show F.heap[b + k]? = some (vp_cell (G.2 3) _)
          rw [vp_cell_q, ← hz, f2, hout]
        · have c3 : k - (n + 1) < x.toNatClampNeg := by omega
          have c4 : k = n + 1 + (k - (n + 1)) := by omega
          rw [c4, hr _ c3]
          show F.heap[b + (n + 1 + (k - (n + 1)))]? = some (vp_cell (G.2 0) _)
          rw [vp_cell_i, show b + (n + 1 + (k - (n + 1))) = H.size + 1 + (k - (n + 1)) by rw [hz]; omega, hrow _ c3]
          refine congrArg some ?_
          show ({ cls := G.2 0, slots := Array.replicate y.toNatClampNeg (.int 0), vm := .none } : Cell) = _
          rw [← arrV_new]⟩ (S_grow hS (by rw [f1]; omega) hold) F rfl X'
  refine ⟨t, step t ?_, b1⟩
  rw [← hz] at a1
  rw [← hTh] at a1
  exact a1
/-- a field of a reference: a final one, in its own class's constructor -/
theorem k_putF (hx : p.tables.exec = Jvm.exec) (hb : c.code = cc) {own C : String} {T : u_T} {N ci index : Nat} (hts : ∀ w ∈ wT, w.before args s = true) (hin : ∀ w ∈ u_ws C T N, w ∈ wT) (ty0 : Nat → FieldType) (hty : ∀ k, k < N → parseFieldDescriptor (T k).2.2.1 = some (ty0 k)) (hnm : ∀ a, a < N → ∀ b, b < N → a ≠ b → (T a).2.1 ≠ (T b).2.1) (hown : s.vm.findClass own = some m.cls) (hK : va_K G.1 cls6 (tysG G) s) (hB : Bd G n b cs H) (hS : va_S A H0 H locs) (hA : ∀ q, b ≤ q → A q) (q0 : Nat) (hq : q0 < n) {fs : List Value} (he : cs q0 = .inr (ci, fs)) (hc : cls6[ci]? = some (C, T, N)) (k : Nat) (hk : k < N)
    (hlink : Cond.fieldLink own index (T k).1 (T k).2.1 (T k).2.2.1 ∈ wT) (hfin : (T k).2.2.2 = true) (hin2 : meth.name = "<init>") (hdecl : (T k).1 = own) {v : Value} (hn : narrow (ty0 k) v = v) (hfit : fits (ty0 k) v = true) (hl : k < fs.length) {cs1 : Nat → va_E} (h1 : cs1 q0 = .inr (ci, fs.set k v)) (h2 : ∀ j, j < n → j ≠ q0 → cs1 j = cs j) (hdg : decode cc pc = .ok (.putfield index, 3))
    (kk : ∀ (H1 : Heap) (locs1 : List Loc), Bd G n b cs1 H1 → va_S A H0 H1 locs1 → W p l e R s m args below meth c H1 locs1 cells slots Q (F0 m (pc + 3) ls rest)) : W p l e R s m args below meth c H locs cells slots Q (F0 m pc ls (v :: .ref (b + q0) :: rest)) := by
  have hap := va_apart (own := own) hts hin ty0 hty hnm hK hc
  have hat := hB.2 q0 hq
  rw [he] at hat
  obtain ⟨r, h0, cell, q1, q2, q3, q4⟩ := hat
  have hr : r = (C, T, N) := Option.some.inj (h0.symm.trans hc)
  subst hr
  obtain ⟨hSl, hfc, kC, hkC, hkind⟩ := hK.1 ci _ hc
  obtain ⟨cf, kf, fi, f, hi, hsl⟩ := hSl k hk
  have hlay := hts _ (hin _ (u_in_lay hk))
  unfold u_lay at hlay
  rw [if_pos hfin] at hlay
  have hst := (u_facts hfc hkC (u_lays hts hin hk) hi).1
  have hcf : m.cls = cf := by
    obtain ⟨_, _, c1, _, _, _, -, -, hf1, -, -, -, hown2, -⟩ := Cond.laysFinal_spec hlay
    have e1 : c1 = cf := by have := hi.symm.trans hf1; simp at this; exact this.1.symm
    rw [hdecl] at hown2
    rw [← e1]
    exact Option.some.inj (hown.symm.trans hown2)
  have h6 := u_fits hfc hkC hkind (Or.inr hlay) hi (hty k hk) hn hfit
  refine W.putFinK hx hb hown (hts _ hlink) hi hst hcf hin2 (by rw [q2]; exact h6) q1 q3 (by rw [hsl]; exact k2_hasslot (q4 k hk)) rfl rfl hdg fun H1 e1 e2 e3 => ?_
  rw [hsl] at e1 ⊢
  refine kk H1 _ ⟨e2.trans hB.1, fun j hj => ?_⟩ (hS.put e2 e3 (hA _ (Nat.le_add_right _ _)))
  by_cases ej : j = q0
  · subst ej
    rw [h1]
    exact ⟨_, hc, t_OB.to (V := updV (vp_V fs) k v) ⟨_, e1, q2, q3, t_set q4 hap hk v⟩ (fun i _ => vp_updV_set hl v i)⟩
  · rw [h2 j hj ej]
    exact (hB.2 j hj).kept (e3 _ (by show b + j ≠ b + q0; omega))
theorem k_get (hx : p.tables.exec = Jvm.exec) (hb : c.code = cc) {own C : String} {T : u_T} {N ci index : Nat} (hts : ∀ w ∈ wT, w.before args s = true) (hin : ∀ w ∈ u_ws C T N, w ∈ wT) (hown : s.vm.findClass own = some m.cls) (hK : va_K G.1 cls6 (tysG G) s) (hB : Bd G n b cs H) (q0 : Nat) (hq : q0 < n) {fs : List Value} (he : cs q0 = .inr (ci, fs)) (hc : cls6[ci]? = some (C, T, N)) (k : Nat) (hk : k < N)
    (hlink : Cond.fieldLink own index (T k).1 (T k).2.1 (T k).2.2.1 ∈ wT) {v : Value} (hv : fs[k]? = some v) (hdg : decode cc pc = .ok (.getfield index, 3))
    (kk : W p l e R s m args below meth c H locs cells slots Q (F0 m (pc + 3) ls (v :: rest))) : W p l e R s m args below meth c H locs cells slots Q (F0 m pc ls (.ref (b + q0) :: rest)) :=
  va_get hx hb hts hin hown hK hB.P q0 (by rw [fw_get hq, he]) hc k hk (hts _ hlink) (fun _ h => h) hv hdg kk
/-- a new object into an array of references -/
theorem k_astq (hx : p.tables.exec = Jvm.exec) (hb : c.code = cc) (hK : va_K G.1 cls6 (tysG G) s) (hB : Bd G n b cs H) (hS : va_S A H0 H locs) (hA : ∀ q, b ≤ q → A q) (q0 t0 qk ci : Nat) (hq : q0 < n) (hqk : qk < n) {r : vw_C} {N : Nat} {vs : List Value} {f g : Nat → Option Nat} (ha : cs q0 = .inl (G.2 t0, N, .inr (.inr (.inr (.inr f))))) (ht : (tysG G)[t0]? = some (G.2 t0, .object r.1)) (hv : cs qk = .inr (ci, vs)) (hc : cls6[ci]? = some r) {x : Int32} {j : Nat} (hj : aix N x = some j) (hg : ∀ q, g q = if q = j then some (b + qk) else f q)
    {cs1 : Nat → va_E} (h1 : cs1 q0 = .inl (G.2 t0, N, .inr (.inr (.inr (.inr g))))) (h2 : ∀ i, i < n → i ≠ q0 → cs1 i = cs i) (hdg : decode cc pc = .ok (.aastore, 1))
    (kk : ∀ (H1 : Heap) (locs1 : List Loc), Bd G n b cs1 H1 → va_S A H0 H1 locs1 → W p l e R s m args below meth c H1 locs1 cells slots Q (F0 m (pc + 1) ls rest)) : W p l e R s m args below meth c H locs cells slots Q (F0 m pc ls (.ref (b + qk) :: .int x :: .ref (b + q0) :: rest)) := by
  obtain ⟨hin, rfl, hlt⟩ := aix_some hj
  have h0 : ¬ x < 0 := fun q => hin (Or.inl q)
  have hvat := hB.2 qk hqk
  rw [hv] at hvat
  obtain ⟨r1, hr1, cellV, g1, g2, g3, -⟩ := hvat
  have haat := hB.2 q0 hq
  rw [ha] at haat
  have hcls := (hK.1 ci r hc).2
  obtain ⟨kA, comp, k1, k2, k3, -⟩ := (hK.2 t0 _ ht).2
  have hcomp : comp = G.1.1 ci := Option.some.inj (k3.symm.trans hcls.1)
  subst hcomp
  obtain ⟨kC, hkC, -⟩ := hcls.2
  have hcell : H[b + q0]? = some (arrV (G.2 t0) N (fun i => va_rf (f i))) := haat
  refine W.aast hx hb hcell (fun q h => by cases h) (fun h => by cases h) k1 k2 rfl hkC ⟨h0, by show _ < (arrV _ _ _).slots.size; rw [arrV_size]; exact hlt⟩ g1 (fun q h => by rw [g3] at h; cases h) (by rw [g2]; exact hkC) (by rw [g2]; exact va_assign hcls) rfl rfl hdg fun H1 e z oq => ?_
  refine kk H1 _ ⟨z.trans hB.1, fun i hi => ?_⟩ (hS.put z oq (hA _ (Nat.le_add_right _ _)))
  by_cases ei : i = q0
  · subst ei
    rw [h1]
    show H1[b + i]? = some (vp_cell (G.2 t0) _)
    rw [e, vp_cell_q, arrV_store]
    refine congrArg some (congrArg (arrV (G.2 t0) N) (funext fun q => ?_))
    rw [hg q]
    by_cases w : q = x.toNatClampNeg
    · rw [if_pos w]
      simp [updV, w, va_rf]
    · rw [if_neg w]
      simp [updV, w]
  · rw [h2 i hi ei]
    exact (hB.2 i hi).kept (oq _ (by show b + i ≠ b + q0; omega))
end KROWS
