/-! ===== memory of one object graph: kind, index, slot; and one array of longs ===== -/
abbrev Mem : Type := (Nat → Nat → Nat → Int32) × (Nat → Int64)
def sR (z : Mem) (kc ki : Nat) (f : Nat → Int32) : Mem := (fun a b => if a = kc ∧ b = ki then f else z.1 a b, z.2)
def sL (z : Mem) (f : Nat → Int64) : Mem := (z.1, f)
def pI (z : Mem) (kc ki j : Nat) (v : Int32) : Mem := sR z kc ki (upd (z.1 kc ki) j v)
def pL (z : Mem) (j : Nat) (v : Int64) : Mem := sL z (vp_updL z.2 j v)
def aix (n : Nat) (x : Int32) : Option Nat := if x < 0 ∨ n ≤ x.toNatClampNeg then none else some x.toNatClampNeg
def bz (v : Int32) : Option Unit := if v = 0 ∨ v = 1 then some () else none
def acp (n : Nat) (sp dp ln : Int32) : Option Unit := if ¬ sp < 0 ∧ ¬ dp < 0 ∧ ¬ ln < 0 ∧ sp.toNatClampNeg + ln.toNatClampNeg ≤ n ∧ dp.toNatClampNeg + ln.toNatClampNeg ≤ n then some () else none
def cpI (z : Mem) (kc ki : Nat) (sp dp ln : Int32) : Mem := sR z kc ki (va_cpy (z.1 kc ki) (z.1 kc ki) sp.toNatClampNeg dp.toNatClampNeg ln.toNatClampNeg)
def cpL (z : Mem) (sp dp ln : Int32) : Mem := sL z (va_cpy z.2 z.2 sp.toNatClampNeg dp.toNatClampNeg ln.toNatClampNeg)
def stM {α : Type} (z : Mem) (f : Mem → Option α) : Option α := f z
def stV {α β : Type} (x : β) (f : β → Option α) : Option α := f x
def FU : Nat := 200
/-! ===== how 'den = some' is taken apart along a walk ===== -/
theorem bnd {α β : Type} {o : Option α} {f : α → Option β} {r : β} (h : o.bind f = some r) : ∃ v, o = some v ∧ f v = some r := by
  cases o with
  | none => cases h
  | some v => exact ⟨v, rfl, h⟩
theorem ite_t {α : Type} {c : Prop} {i : Decidable c} {a b r : α} (h : (@ite α c i a b) = r) (hc : c) : a = r := by rw [if_pos hc] at h; exact h
theorem ite_f {α : Type} {c : Prop} {i : Decidable c} {a b r : α} (h : (@ite α c i a b) = r) (hc : ¬ c) : b = r := by rw [if_neg hc] at h; exact h
theorem stM_n {α : Type} {x y : Mem} {f : Mem → Option α} {r : Option α} (h : stM x f = r) (e : y = x) : f y = r := by rw [e]; exact h
theorem stV_n {α β : Type} {x y : β} {f : β → Option α} {r : Option α} (h : stV x f = r) (e : y = x) : f y = r := by rw [e]; exact h
theorem aix_some {n : Nat} {x : Int32} {j : Nat} (h : aix n x = some j) : vp_in x n ∧ x.toNatClampNeg = j ∧ j < n := by
  unfold aix at h
  by_cases c : x < 0 ∨ n ≤ x.toNatClampNeg
  · rw [if_pos c] at h
    cases h
  · rw [if_neg c] at h
    cases h
    exact ⟨c, rfl, Nat.not_le.mp fun q => c (Or.inr q)⟩
theorem aix_lt {n : Nat} {x : Int32} {j : Nat} (h : aix n x = some j) : j < n := (aix_some h).2.2
theorem bz_some {v : Int32} {u : Unit} (h : bz v = some u) : v = 0 ∨ v = 1 := by
  unfold bz at h
  by_cases c : v = 0 ∨ v = 1
  · exact c
  · rw [if_neg c] at h
    cases h
theorem acp_some {n : Nat} {sp dp ln : Int32} {u : Unit} (h : acp n sp dp ln = some u) : ¬ sp < 0 ∧ ¬ dp < 0 ∧ ¬ ln < 0 ∧ sp.toNatClampNeg + ln.toNatClampNeg ≤ n ∧ dp.toNatClampNeg + ln.toNatClampNeg ≤ n := by
  unfold acp at h
  by_cases c : ¬ sp < 0 ∧ ¬ dp < 0 ∧ ¬ ln < 0 ∧ sp.toNatClampNeg + ln.toNatClampNeg ≤ n ∧ dp.toNatClampNeg + ln.toNatClampNeg ≤ n
  · exact c
  · rw [if_neg c] at h
    cases h
theorem bz_nar {v : Int32} (h : v = 0 ∨ v = 1) : narrow .boolean (.int v) = .int v := by rcases h with rfl | rfl <;> rfl
theorem bz_fit {v : Int32} (h : v = 0 ∨ v = 1) : fits .boolean (.int v) = true := by rcases h with rfl | rfl <;> rfl
theorem bz_vnar {v : Int32} (h : v = 0 ∨ v = 1) : vp_nar .boolean v = v := by rcases h with rfl | rfl <;> rfl
/-! ===== a layout: number of cells; kind and index of a place; place of a kind and index; a cell by kind, index, row, longs ===== -/
abbrev Ly : Type := Nat × (Nat → Nat) × (Nat → Nat) × (Nat → Nat → Nat) × ((Nat → ClassId) → Nat → Nat → Nat → (Nat → Int32) → (Nat → Int64) → va_E)
abbrev GG : Type := va_G × (Nat → ClassId)
def tysG (G : GG) : List (ClassId × FieldType) := [(G.2 0, .int), (G.2 1, .long), (G.2 2, .boolean), (G.2 3, .array .int), (G.2 4, .object "DeficitNet$Port"), (G.2 5, .object "DeficitNet$Flow"), (G.2 6, .object "DeficitNet$Packet")]
def cellL (L : Ly) (ar : Nat → ClassId) (b : Nat) (z : Mem) (k : Nat) : va_E := L.2.2.2.2 ar b (L.2.1 k) (L.2.2.1 k) (z.1 (L.2.1 k) (L.2.2.1 k)) z.2
def wl (L : Ly) (G : GG) (b : Nat) (z : Mem) : va_W := (List.range L.1).map fun k => (b + k, cellL L G.2 b z k)
def Wd (L : Ly) (G : GG) (b : Nat) (z : Mem) (H : Heap) : Prop := va_P G.1 cls6 (wl L G b z) H
def ad (L : Ly) (b kc ki : Nat) : Nat := b + L.2.2.2.1 kc ki
def rgL (L : Ly) (b : Nat) : Nat → Prop := fun q => b ≤ q ∧ q < b + L.1
def okL (L : Ly) (kc ki : Nat) : Prop := L.2.2.2.1 kc ki < L.1 ∧ L.2.1 (L.2.2.2.1 kc ki) = kc ∧ L.2.2.1 (L.2.2.2.1 kc ki) = ki ∧ ∀ k, k < L.1 → L.2.1 k = kc → L.2.2.1 k = ki → k = L.2.2.2.1 kc ki
/-- only the cells of kind kl hold longs, and there is one -/
def lnL (L : Ly) (kl : Nat) : Prop := okL L kl 0 ∧ (∀ k, k < L.1 → L.2.1 k = kl → L.2.2.1 k = 0) ∧ ∀ (ar : Nat → ClassId) (b kc ki : Nat) (f : Nat → Int32) (g g' : Nat → Int64), kc ≠ kl → L.2.2.2.2 ar b kc ki f g = L.2.2.2.2 ar b kc ki f g'
theorem sR_same (z : Mem) (kc ki : Nat) (f : Nat → Int32) : (sR z kc ki f).1 kc ki = f := by simp [sR]
theorem sR_other (z : Mem) {kc ki a b : Nat} (f : Nat → Int32) (h : ¬ (a = kc ∧ b = ki)) : (sR z kc ki f).1 a b = z.1 a b := by simp only [sR]; rw [if_neg h]
theorem wl_key {L : Ly} {G : GG} {b : Nat} {z : Mem} {k : Nat} {q : Nat × va_E} (h : (wl L G b z)[k]? = some q) : k < L.1 ∧ q = (b + k, cellL L G.2 b z k) := by
  unfold wl at h
  rw [List.getElem?_map] at h
  by_cases hk : k < L.1
  · rw [List.getElem?_range hk] at h
    cases h
    exact ⟨hk, rfl⟩
  · rw [List.getElem?_eq_none (by rw [List.length_range]; omega)] at h
    cases h
theorem wl_get {L : Ly} {G : GG} {b : Nat} {z : Mem} {k : Nat} (hk : k < L.1) : (wl L G b z)[k]? = some (b + k, cellL L G.2 b z k) := by
  unfold wl
  rw [List.getElem?_map, List.getElem?_range hk]
  rfl
theorem wl_none {L : Ly} {G : GG} {b : Nat} {z : Mem} {k : Nat} (hk : ¬ k < L.1) : (wl L G b z)[k]? = none := by
  unfold wl
  rw [List.getElem?_map, List.getElem?_eq_none (by rw [List.length_range]; omega)]
  rfl
theorem wl_at {L : Ly} {G : GG} {b : Nat} {z : Mem} {kc ki : Nat} (ho : okL L kc ki) : (wl L G b z)[L.2.2.2.1 kc ki]? = some (ad L b kc ki, L.2.2.2.2 G.2 b kc ki (z.1 kc ki) z.2) := by
  obtain ⟨h1, h2, h3, -⟩ := ho
  rw [wl_get h1]
  unfold cellL
  rw [h2, h3]
  rfl
theorem wl_D (L : Ly) (G : GG) (b : Nat) (z : Mem) : va_D (rgL L b) (wl L G b z) := by
  refine ⟨fun i j p q hi hj hpq => ?_, fun k q hk => ?_⟩
  · obtain ⟨-, rfl⟩ := wl_key hi
    obtain ⟨-, rfl⟩ := wl_key hj
    have h : b + i = b + j := hpq
    omega
  · obtain ⟨h, rfl⟩ := wl_key hk
    exact ⟨Nat.le_add_right _ _, Nat.add_lt_add_left h b⟩
theorem wl_len (L : Ly) (G : GG) (b : Nat) (z : Mem) : (wl L G b z).length = L.1 := by simp [wl]
theorem wl_set {L : Ly} {G : GG} {b : Nat} {z : Mem} {kc ki : Nat} (ho : okL L kc ki) (f : Nat → Int32) : (wl L G b z).set (L.2.2.2.1 kc ki) (ad L b kc ki, L.2.2.2.2 G.2 b kc ki f z.2) = wl L G b (sR z kc ki f) := by
  apply List.ext_getElem?
  intro k
  by_cases e : L.2.2.2.1 kc ki = k
  · subst e
    rw [wl_at ho, List.getElem?_set_self (by rw [wl_len]; exact ho.1), sR_same]
    rfl
  · rw [List.getElem?_set_ne e]
    by_cases hk : k < L.1
    · rw [wl_get hk, wl_get hk]
      have hn : ¬ (L.2.1 k = kc ∧ L.2.2.1 k = ki) := fun h => e (ho.2.2.2 k hk h.1 h.2).symm
      unfold cellL
      rw [sR_other z f hn]
      rfl
    · rw [wl_none hk, wl_none hk]
theorem wl_setL {L : Ly} {G : GG} {b : Nat} {z : Mem} {kl : Nat} (hl : lnL L kl) (f : Nat → Int64) : (wl L G b z).set (L.2.2.2.1 kl 0) (ad L b kl 0, L.2.2.2.2 G.2 b kl 0 (z.1 kl 0) f) = wl L G b (sL z f) := by
  obtain ⟨ho, h0, hd⟩ := hl
  apply List.ext_getElem?
  intro k
  by_cases e : L.2.2.2.1 kl 0 = k
  · subst e
    rw [wl_at ho, List.getElem?_set_self (by rw [wl_len]; exact ho.1)]
    rfl
  · rw [List.getElem?_set_ne e]
    by_cases hk : k < L.1
    · rw [wl_get hk, wl_get hk]
      have hn : L.2.1 k ≠ kl := fun h => e (ho.2.2.2 k hk h (h0 k hk h)).symm
      unfold cellL
      rw [hd G.2 b (L.2.1 k) (L.2.2.1 k) _ z.2 (sL z f).2 hn]
      rfl
    · rw [wl_none hk, wl_none hk]
theorem Wd.kept {L : Ly} {G : GG} {b : Nat} {z : Mem} {H H1 : Heap} (h : Wd L G b z H) (hk : ∀ q : Nat, q < H.size → ¬ False → H1[q]? = H[q]?) : Wd L G b z H1 :=
  va_P.kept h fun k q hq => hk q.1 (h k q hq).lt (fun x => x)
theorem Wd.apart {L : Ly} {G : GG} {b : Nat} {z : Mem} {H H1 : Heap} {A : Nat → Prop} (h : Wd L G b z H) (hk : ∀ q : Nat, q < H.size → ¬ A q → H1[q]? = H[q]?) (hA : ∀ q, rgL L b q → ¬ A q) : Wd L G b z H1 :=
  va_P.kept h fun k q hq => hk q.1 (h k q hq).lt (hA _ (by obtain ⟨h1, rfl⟩ := wl_key hq; exact ⟨Nat.le_add_right _ _, Nat.add_lt_add_left h1 b⟩))
/-! ===== what a method's walk stands on ===== -/
def Cx (y : MethodName) (cc : ByteArray) (nL : Nat) (ret : Option FieldType) (p : Program) (s : State) (m : MethodId) (args : Array Value) (meth : Method) (c : Code) (G : GG) : Prop :=
  p.tables.exec = Jvm.exec ∧ c.code = cc ∧ c.maxLocals = nL ∧ meth.sig.returnType = ret ∧ s.vm.findClass y.cls = some m.cls ∧ (∀ w ∈ wT, w.before args s = true) ∧ meth.locks = false ∧ va_K G.1 cls6 (tysG G) s
def wdP (L : Ly) (G : GG) (b : Nat) (z : Mem) (U : State) : Prop := Wd L G b z U.heap ∧ va_K G.1 cls6 (tysG G) U
/-- contracts: with an int, a long, nothing; and of a static method that reads no memory -/
abbrev QI (L : Ly) (G : GG) (b : Nat) (r0 : Int32) (z0 : Mem) : Array Value → State → Outcome → State → Prop := va_Qi (fun (r : Int32) (u : Mem) => r = r0 ∧ u = z0) (wdP L G b) (rgL L b)
abbrev QJ (L : Ly) (G : GG) (b : Nat) (r0 : Int64) (z0 : Mem) : Array Value → State → Outcome → State → Prop := va_Ql (fun (r : Int64) (u : Mem) => r = r0 ∧ u = z0) (wdP L G b) (rgL L b)
abbrev QV (L : Ly) (G : GG) (b : Nat) (z0 : Mem) : Array Value → State → Outcome → State → Prop := va_Qv (fun (u : Mem) => u = z0) (wdP L G b) (rgL L b)
abbrev QPI (r0 : Int32) : Array Value → State → Outcome → State → Prop := va_Qi (fun (r : Int32) (_ : Unit) => r = r0) (fun _ _ => True) (fun _ => False)
abbrev QPJ (r0 : Int64) : Array Value → State → Outcome → State → Prop := va_Ql (fun (r : Int64) (_ : Unit) => r = r0) (fun _ _ => True) (fun _ => False)
abbrev MtW (l : Launch) (y : MethodName) (bytes : ByteArray) (maxL : Nat) (ret : Option FieldType) (rm : Room) (L : Ly) (G : GG) (b : Nat) (As : List Value) (z : Mem) (Q : Array Value → State → Outcome → State → Prop) : Prop :=
  Met l y (Cond.code y bytes maxL ret :: wT) rm (va_Pc As (wdP L G b z)) Q 0 0 (rgL L b)
abbrev MtP (l : Launch) (y : MethodName) (bytes : ByteArray) (maxL : Nat) (ret : Option FieldType) (rm : Room) (As : List Value) (Q : Array Value → State → Outcome → State → Prop) : Prop :=
  Met l y (Cond.code y bytes maxL ret :: wT) rm (va_Pc As (fun _ => True)) Q 0 0 (fun _ => False)
theorem blindP {L : Ly} {G : GG} {b : Nat} {z : Mem} {As : List Value} : FrameBlind (va_Pc As (wdP L G b z)) := fun a U g mk q => ⟨q.1, q.2.1, va_K.moved (u := U) (U := U.calling g mk a) (Vm.Alike.refl U.vm) q.2.2⟩
theorem blindT {As : List Value} : FrameBlind (va_Pc As (fun _ => True)) := fun _ _ _ _ q => ⟨q.1, trivial⟩
theorem gT {X : List Cond} (h : ∀ w ∈ X, w ∈ wT) : GoodIn wT X := fun w hw => ⟨h w hw, good_of_word (List.mem_filter.mp (h w hw)).2⟩
/-- a world method's contract out of the walk of its body -/
theorem mtW_of {l : Launch} {y : MethodName} {cc : ByteArray} {maxL : Nat} {ret : Option FieldType} {rm : Room} {L : Ly} {G : GG} {b : Nat} {As : List Value} {z : Mem} {Q : Array Value → State → Outcome → State → Prop}
    (hy : plainName y.cls = true) (hl : (lg_sl As).length ≤ maxL)
    (body : ∀ (p : Program) (e : Env) (s : State) (m : MethodId) (args : Array Value) (below : List Frame) (meth : Method) (c : Code) (ls : Array Slot) (H : Heap) (locs : List Loc), Cx y cc maxL ret p s m args meth c G → Wd L G b z H → va_S (rgL L b) s.heap H locs → lv_has ls maxL (lv_args 0 As) →
      W p l e rm s m args below meth c H locs 0 0 (MQ below Q args s 0 0 (rgL L b)) (F0 m 0 ls [])) : MtW l y cc maxL ret rm L G b As z Q := by
  refine Met.ofW (cc := cc) (maxL := maxL) (ret := ret) hy rfl ?_
  intro p e s m args below meth c s₁ B hml hv
  obtain ⟨rfl, hW, hK⟩ := hv
  rw [lg_entry_eq]
  exact body p e s m _ below meth c _ s.heap [] ⟨B.exec, B.bytes, hml, B.returns, findClass_of_methodNamed B.named, fun w hw => atoms_spec (ws := Cond.code y cc maxL ret :: wT) B.pre w (List.mem_cons_of_mem _ hw), B.notSynchronized, hK⟩ hW va_S.rf (lv_entry As hl)
def Cp (y : MethodName) (cc : ByteArray) (nL : Nat) (ret : Option FieldType) (p : Program) (s : State) (m : MethodId) (args : Array Value) (meth : Method) (c : Code) : Prop :=
  p.tables.exec = Jvm.exec ∧ c.code = cc ∧ c.maxLocals = nL ∧ meth.sig.returnType = ret ∧ s.vm.findClass y.cls = some m.cls ∧ (∀ w ∈ wT, w.before args s = true) ∧ meth.locks = false
theorem mtP_of {l : Launch} {y : MethodName} {cc : ByteArray} {maxL : Nat} {ret : Option FieldType} {rm : Room} {As : List Value} {Q : Array Value → State → Outcome → State → Prop}
    (hy : plainName y.cls = true) (hl : (lg_sl As).length ≤ maxL)
    (body : ∀ (p : Program) (e : Env) (s : State) (m : MethodId) (args : Array Value) (below : List Frame) (meth : Method) (c : Code) (ls : Array Slot), Cp y cc maxL ret p s m args meth c → lv_has ls maxL (lv_args 0 As) →
      W p l e rm s m args below meth c s.heap [] 0 0 (MQ below Q args s 0 0 (fun _ => False)) (F0 m 0 ls [])) : MtP l y cc maxL ret rm As Q := by
  refine Met.ofW (cc := cc) (maxL := maxL) (ret := ret) hy rfl ?_
  intro p e s m args below meth c s₁ B hml hv
  obtain ⟨rfl, -⟩ := hv
  rw [lg_entry_eq]
  exact body p e s m _ below meth c _ ⟨B.exec, B.bytes, hml, B.returns, findClass_of_methodNamed B.named, fun w hw => atoms_spec (ws := Cond.code y cc maxL ret :: wT) B.pre w (List.mem_cons_of_mem _ hw), B.notSynchronized⟩ (lv_entry As hl)
section QROWS
variable {p : Program} {l : Launch} {e : Env} {R : Room} {s : State} {m : MethodId} {args : Array Value} {below : List Frame} {meth : Method} {c : Code} {H : Heap} {locs : List Loc} {cells slots : Nat} {Q : State → Prop}
variable {cc : ByteArray} {pc : Nat} {ls : Array Slot} {rest st : List Value} {L : Ly} {G : GG} {b kc ki : Nat} {z : Mem}
/-! ===== fields ===== -/
theorem q_get (hx : p.tables.exec = Jvm.exec) (hb : c.code = cc) {own C : String} {T : u_T} {N ci index : Nat} (hts : ∀ w ∈ wT, w.before args s = true) (hin : ∀ w ∈ u_ws C T N, w ∈ wT) (hown : s.vm.findClass own = some m.cls) (hK : va_K G.1 cls6 (tysG G) s) (hW : Wd L G b z H) (ho : okL L kc ki) {fs : List Value} (hcf : L.2.2.2.2 G.2 b kc ki (z.1 kc ki) z.2 = .inr (ci, fs)) (hc : cls6[ci]? = some (C, T, N)) (k : Nat) (hk : k < N)
    (hlink : Cond.fieldLink own index (T k).1 (T k).2.1 (T k).2.2.1 ∈ wT) {v : Value} (hv : fs[k]? = some v) (hdg : decode cc pc = .ok (.getfield index, 3))
    (kk : W p l e R s m args below meth c H locs cells slots Q (F0 m (pc + 3) ls (v :: rest))) : W p l e R s m args below meth c H locs cells slots Q (F0 m pc ls (.ref (ad L b kc ki) :: rest)) :=
  va_get hx hb hts hin hown hK hW (L.2.2.2.1 kc ki) (by rw [wl_at ho, hcf]) hc k hk (hts _ hlink) (fun _ h => h) hv hdg kk
theorem q_put (hx : p.tables.exec = Jvm.exec) (hb : c.code = cc) {own C : String} {T : u_T} {N ci index : Nat} (hts : ∀ w ∈ wT, w.before args s = true) (hin : ∀ w ∈ u_ws C T N, w ∈ wT) (ty0 : Nat → FieldType) (hty : ∀ k, k < N → parseFieldDescriptor (T k).2.2.1 = some (ty0 k)) (hnm : ∀ a, a < N → ∀ b, b < N → a ≠ b → (T a).2.1 ≠ (T b).2.1) (hown : s.vm.findClass own = some m.cls) (hK : va_K G.1 cls6 (tysG G) s) (hW : Wd L G b z H) {H0 : Heap} (hS : va_S (rgL L b) H0 H locs) (ho : okL L kc ki) {fs : List Value} (hcf : L.2.2.2.2 G.2 b kc ki (z.1 kc ki) z.2 = .inr (ci, fs)) (hc : cls6[ci]? = some (C, T, N)) (k : Nat) (hk : k < N)
    (hlink : Cond.fieldLink own index (T k).1 (T k).2.1 (T k).2.2.1 ∈ wT) (hfin : (T k).2.2.2 = false) {x : Int32} (hn : narrow (ty0 k) (.int x) = .int x) (hfit : fits (ty0 k) (.int x) = true) (hl : k < fs.length) (hset : L.2.2.2.2 G.2 b kc ki (upd (z.1 kc ki) k x) z.2 = .inr (ci, fs.set k (.int x))) (hdg : decode cc pc = .ok (.putfield index, 3))
    (kk : ∀ (H1 : Heap) (locs1 : List Loc) (z1 : Mem), z1 = pI z kc ki k x → Wd L G b z1 H1 → va_S (rgL L b) H0 H1 locs1 → W p l e R s m args below meth c H1 locs1 cells slots Q (F0 m (pc + 3) ls rest)) : W p l e R s m args below meth c H locs cells slots Q (F0 m pc ls (.int x :: .ref (ad L b kc ki) :: rest)) := by
  refine va_put hx hb hts hin ty0 hty hnm hown hK hW (wl_D L G b z) hS (L.2.2.2.1 kc ki) (by rw [wl_at ho, hcf]) hc k hk (hts _ hlink) (fun _ h => h) hfin (hty k hk) hn hfit hl hdg (fun H1 locs1 hP _ hS1 => kk H1 locs1 _ rfl ?_ hS1)
  rw [← hset, wl_set ho] at hP
  exact hP
/-! ===== arrays ===== -/
theorem q_iald (hx : p.tables.exec = Jvm.exec) (hb : c.code = cc) (hK : va_K G.1 cls6 (tysG G) s) (hW : Wd L G b z H) (ho : okL L kc ki) {n : Nat} (hcf : L.2.2.2.2 G.2 b kc ki (z.1 kc ki) z.2 = .inl (G.2 0, n, .inl (z.1 kc ki))) {x : Int32} {j : Nat} (hj : aix n x = some j) (hdg : decode cc pc = .ok (.iaload, 1))
    (kk : W p l e R s m args below meth c H locs cells slots Q (F0 m (pc + 1) ls (.int (z.1 kc ki j) :: rest))) : W p l e R s m args below meth c H locs cells slots Q (F0 m pc ls (.int x :: .ref (ad L b kc ki) :: rest)) := by
  obtain ⟨h1, rfl, -⟩ := aix_some hj
  exact va_iald hx hb hK hW (L.2.2.2.1 kc ki) 0 (by rw [wl_at ho, hcf]) rfl h1 hdg kk
theorem q_zald (hx : p.tables.exec = Jvm.exec) (hb : c.code = cc) (hK : va_K G.1 cls6 (tysG G) s) (hW : Wd L G b z H) (ho : okL L kc ki) {n : Nat} (hcf : L.2.2.2.2 G.2 b kc ki (z.1 kc ki) z.2 = .inl (G.2 2, n, .inl (z.1 kc ki))) {x : Int32} {j : Nat} (hj : aix n x = some j) (hdg : decode cc pc = .ok (.baload, 1))
    (kk : W p l e R s m args below meth c H locs cells slots Q (F0 m (pc + 1) ls (.int (z.1 kc ki j) :: rest))) : W p l e R s m args below meth c H locs cells slots Q (F0 m pc ls (.int x :: .ref (ad L b kc ki) :: rest)) := by
  obtain ⟨h1, rfl, -⟩ := aix_some hj
  exact va_zald hx hb hK hW (L.2.2.2.1 kc ki) 2 (by rw [wl_at ho, hcf]) rfl h1 hdg kk
theorem q_lald (hx : p.tables.exec = Jvm.exec) (hb : c.code = cc) (hK : va_K G.1 cls6 (tysG G) s) (hW : Wd L G b z H) (ho : okL L kc ki) {n : Nat} (hcf : L.2.2.2.2 G.2 b kc ki (z.1 kc ki) z.2 = .inl (G.2 1, n, .inr (.inl z.2))) {x : Int32} {j : Nat} (hj : aix n x = some j) (hdg : decode cc pc = .ok (.laload, 1))
    (kk : W p l e R s m args below meth c H locs cells slots Q (F0 m (pc + 1) ls (.long (z.2 j) :: rest))) : W p l e R s m args below meth c H locs cells slots Q (F0 m pc ls (.int x :: .ref (ad L b kc ki) :: rest)) := by
  obtain ⟨h1, rfl, -⟩ := aix_some hj
  exact va_lald hx hb hK hW (L.2.2.2.1 kc ki) 1 (by rw [wl_at ho, hcf]) rfl h1 hdg kk
/-- a reference out of an array of references; t0: the place of its type in tysG; kd: the kind of what it holds -/
theorem q_aald (hx : p.tables.exec = Jvm.exec) (hb : c.code = cc) (hK : va_K G.1 cls6 (tysG G) s) (hW : Wd L G b z H) (ho : okL L kc ki) {n kd t0 : Nat} {ty : FieldType} (hcf : L.2.2.2.2 G.2 b kc ki (z.1 kc ki) z.2 = .inl (G.2 t0, n, .inr (.inr (.inr (.inr (fun q => if q < n then some (ad L b kd q) else none)))))) (ht : (tysG G)[t0]? = some (G.2 t0, ty)) (hr : ty.isReference = true) {x : Int32} {j : Nat} (hj : aix n x = some j) (hdg : decode cc pc = .ok (.aaload, 1))
    (kk : W p l e R s m args below meth c H locs cells slots Q (F0 m (pc + 1) ls (.ref (ad L b kd j) :: rest))) : W p l e R s m args below meth c H locs cells slots Q (F0 m pc ls (.int x :: .ref (ad L b kc ki) :: rest)) := by
  obtain ⟨h1, rfl, hlt⟩ := aix_some hj
  have ha : (wl L G b z)[L.2.2.2.1 kc ki]? = some (ad L b kc ki, .inl (G.2 t0, n, .inr (.inr (.inr (.inr (fun q => if q < n then some (ad L b kd q) else none)))))) := by rw [wl_at ho, hcf]
  have hcell : H[ad L b kc ki]? = some (arrV (G.2 t0) n (fun q => va_rf (if q < n then some (ad L b kd q) else none))) := hW (L.2.2.2.1 kc ki) _ ha
  exact W.aald (v := .ref (ad L b kd x.toNatClampNeg)) (ty := ty) hx hb hcell ((hK.2 t0 _ ht).1 n _) hr (fun q => by cases q) (by show ¬ (x < 0 ∨ (arrV _ _ _).slots.size ≤ _); rw [arrV_size]; exact h1) (by show (arrV _ _ _).slots[_]? = _; rw [arrV_read _ _ hlt, if_pos hlt]; rfl) rfl rfl hdg kk
theorem q_iast (hx : p.tables.exec = Jvm.exec) (hb : c.code = cc) (hK : va_K G.1 cls6 (tysG G) s) (hW : Wd L G b z H) {H0 : Heap} (hS : va_S (rgL L b) H0 H locs) (ho : okL L kc ki) {n : Nat} (hcf : ∀ f : Nat → Int32, L.2.2.2.2 G.2 b kc ki f z.2 = .inl (G.2 0, n, .inl f)) {x v : Int32} {j : Nat} (hj : aix n x = some j) (hdg : decode cc pc = .ok (.iastore, 1))
    (kk : ∀ (H1 : Heap) (locs1 : List Loc) (z1 : Mem), z1 = pI z kc ki j v → Wd L G b z1 H1 → va_S (rgL L b) H0 H1 locs1 → W p l e R s m args below meth c H1 locs1 cells slots Q (F0 m (pc + 1) ls rest)) : W p l e R s m args below meth c H locs cells slots Q (F0 m pc ls (.int v :: .int x :: .ref (ad L b kc ki) :: rest)) := by
  obtain ⟨h1, rfl, -⟩ := aix_some hj
  refine va_iast hx hb hK hW (wl_D L G b z) hS (L.2.2.2.1 kc ki) 0 (by rw [wl_at ho, hcf]) rfl h1 hdg (fun H1 locs1 hP _ hS1 => kk H1 locs1 _ rfl ?_ hS1)
  rw [← hcf, wl_set ho] at hP
  exact hP
theorem q_zast (hx : p.tables.exec = Jvm.exec) (hb : c.code = cc) (hK : va_K G.1 cls6 (tysG G) s) (hW : Wd L G b z H) {H0 : Heap} (hS : va_S (rgL L b) H0 H locs) (ho : okL L kc ki) {n : Nat} (hcf : ∀ f : Nat → Int32, L.2.2.2.2 G.2 b kc ki f z.2 = .inl (G.2 2, n, .inl f)) {x v : Int32} {j : Nat} (hv : v = 0 ∨ v = 1) (hj : aix n x = some j) (hdg : decode cc pc = .ok (.bastore, 1))
    (kk : ∀ (H1 : Heap) (locs1 : List Loc) (z1 : Mem), z1 = pI z kc ki j v → Wd L G b z1 H1 → va_S (rgL L b) H0 H1 locs1 → W p l e R s m args below meth c H1 locs1 cells slots Q (F0 m (pc + 1) ls rest)) : W p l e R s m args below meth c H locs cells slots Q (F0 m pc ls (.int v :: .int x :: .ref (ad L b kc ki) :: rest)) := by
  obtain ⟨h1, rfl, -⟩ := aix_some hj
  refine va_zast hx hb hK hW (wl_D L G b z) hS (L.2.2.2.1 kc ki) 2 (by rw [wl_at ho, hcf]) rfl h1 hdg (fun H1 locs1 hP _ hS1 => kk H1 locs1 _ rfl ?_ hS1)
  rw [bz_vnar hv, ← hcf, wl_set ho] at hP
  exact hP
theorem q_last (hx : p.tables.exec = Jvm.exec) (hb : c.code = cc) (hK : va_K G.1 cls6 (tysG G) s) (hW : Wd L G b z H) {H0 : Heap} (hS : va_S (rgL L b) H0 H locs) {kl : Nat} (hl : lnL L kl) {n : Nat} (hcf : ∀ g : Nat → Int64, L.2.2.2.2 G.2 b kl 0 (z.1 kl 0) g = .inl (G.2 1, n, .inr (.inl g))) {x : Int32} {v : Int64} {j : Nat} (hj : aix n x = some j) (hdg : decode cc pc = .ok (.lastore, 1))
    (kk : ∀ (H1 : Heap) (locs1 : List Loc) (z1 : Mem), z1 = pL z j v → Wd L G b z1 H1 → va_S (rgL L b) H0 H1 locs1 → W p l e R s m args below meth c H1 locs1 cells slots Q (F0 m (pc + 1) ls rest)) : W p l e R s m args below meth c H locs cells slots Q (F0 m pc ls (.long v :: .int x :: .ref (ad L b kl 0) :: rest)) := by
  obtain ⟨h1, rfl, -⟩ := aix_some hj
  refine va_last hx hb hK hW (wl_D L G b z) hS (L.2.2.2.1 kl 0) 1 (by rw [wl_at hl.1, hcf]) rfl h1 hdg (fun H1 locs1 hP _ hS1 => kk H1 locs1 _ rfl ?_ hS1)
  rw [← hcf, wl_setL hl] at hP
  exact hP
theorem q_alen (hx : p.tables.exec = Jvm.exec) (hb : c.code = cc) (hK : va_K G.1 cls6 (tysG G) s) (hW : Wd L G b z H) (ho : okL L kc ki) {t0 : Nat} {ty : FieldType} {x : vp_A} (hcf : L.2.2.2.2 G.2 b kc ki (z.1 kc ki) z.2 = .inl (G.2 t0, x)) (ht : (tysG G)[t0]? = some (G.2 t0, ty)) {v : Int32} (hv : Int32.ofNat x.1 = v) (hdg : decode cc pc = .ok (.arraylength, 1))
    (kk : W p l e R s m args below meth c H locs cells slots Q (F0 m (pc + 1) ls (.int v :: rest))) : W p l e R s m args below meth c H locs cells slots Q (F0 m pc ls (.ref (ad L b kc ki) :: rest)) :=
  va_alen hx hb hK hW (L.2.2.2.1 kc ki) t0 (by rw [wl_at ho, hcf]) ht hv hdg kk
/-- System.arraycopy within one array -/
theorem q_cpi (hx : p.tables.exec = Jvm.exec) (hb : c.code = cc) (hml : c.maxLocals = ls.size) {own : String} {index : Nat} (hts : ∀ w ∈ wT, w.before args s = true) (hown : s.vm.findClass own = some m.cls) (hlink : Cond.methodLink own index arraycopyName ∈ wT) (hcw : Cond.native arraycopyName ∈ wT ∧ Cond.static arraycopyName ∈ wT ∧ Cond.initialized "java/lang/System" ∈ wT) (hK : va_K G.1 cls6 (tysG G) s) (hW : Wd L G b z H) {H0 : Heap} (hS : va_S (rgL L b) H0 H locs) (ho : okL L kc ki) {n : Nat} (hcf : ∀ f : Nat → Int32, L.2.2.2.2 G.2 b kc ki f z.2 = .inl (G.2 0, n, .inl f)) {sp dp ln : Int32} {u : Unit} (ha : acp n sp dp ln = some u)
    (hR : 1 ≤ R.frames) (hlo : (rest.map fun v => v.category).sum + (nativeFrameWords "java/lang/System" "arraycopy" 5 + 11) ≤ R.locals) (hdg : decode cc pc = .ok (.invokestatic index, 3))
    (kk : ∀ (H1 : Heap) (locs1 : List Loc) (z1 : Mem), z1 = cpI z kc ki sp dp ln → Wd L G b z1 H1 → va_S (rgL L b) H0 H1 locs1 → W p l e R s m args below meth c H1 locs1 cells slots Q (F0 m (pc + 3) ls rest)) : W p l e R s m args below meth c H locs cells slots Q (F0 m pc ls (.int ln :: .int dp :: .ref (ad L b kc ki) :: .int sp :: .ref (ad L b kc ki) :: rest)) := by
  obtain ⟨h1, h2, h3, h4, h5⟩ := acp_some ha
  refine va_copyi hx hb hml hown (hts _ hlink) (hts _ hcw.1) (hts _ hcw.2.1) (hts _ hcw.2.2) hK hW (wl_D L G b z) hS (L.2.2.2.1 kc ki) (L.2.2.2.1 kc ki) 0 0 (by rw [wl_at ho, hcf]) (by rw [wl_at ho, hcf]) rfl rfl rfl h1 h2 h3 h4 h5 (fun _ _ => rfl) hR hlo hdg (fun H1 locs1 hP _ hS1 => kk H1 locs1 _ rfl ?_ hS1)
  rw [← hcf, wl_set ho] at hP
  exact hP
theorem q_cpl (hx : p.tables.exec = Jvm.exec) (hb : c.code = cc) (hml : c.maxLocals = ls.size) {own : String} {index : Nat} (hts : ∀ w ∈ wT, w.before args s = true) (hown : s.vm.findClass own = some m.cls) (hlink : Cond.methodLink own index arraycopyName ∈ wT) (hcw : Cond.native arraycopyName ∈ wT ∧ Cond.static arraycopyName ∈ wT ∧ Cond.initialized "java/lang/System" ∈ wT) (hK : va_K G.1 cls6 (tysG G) s) (hW : Wd L G b z H) {H0 : Heap} (hS : va_S (rgL L b) H0 H locs) {kl : Nat} (hl : lnL L kl) {n : Nat} (hcf : ∀ g : Nat → Int64, L.2.2.2.2 G.2 b kl 0 (z.1 kl 0) g = .inl (G.2 1, n, .inr (.inl g))) {sp dp ln : Int32} {u : Unit} (ha : acp n sp dp ln = some u)
    (hR : 1 ≤ R.frames) (hlo : (rest.map fun v => v.category).sum + (nativeFrameWords "java/lang/System" "arraycopy" 5 + 11) ≤ R.locals) (hdg : decode cc pc = .ok (.invokestatic index, 3))
    (kk : ∀ (H1 : Heap) (locs1 : List Loc) (z1 : Mem), z1 = cpL z sp dp ln → Wd L G b z1 H1 → va_S (rgL L b) H0 H1 locs1 → W p l e R s m args below meth c H1 locs1 cells slots Q (F0 m (pc + 3) ls rest)) : W p l e R s m args below meth c H locs cells slots Q (F0 m pc ls (.int ln :: .int dp :: .ref (ad L b kl 0) :: .int sp :: .ref (ad L b kl 0) :: rest)) := by
  obtain ⟨h1, h2, h3, h4, h5⟩ := acp_some ha
  refine va_copyl hx hb hml hown (hts _ hlink) (hts _ hcw.1) (hts _ hcw.2.1) (hts _ hcw.2.2) hK hW (wl_D L G b z) hS (L.2.2.2.1 kl 0) (L.2.2.2.1 kl 0) 1 1 (by rw [wl_at hl.1, hcf]) (by rw [wl_at hl.1, hcf]) rfl rfl rfl h1 h2 h3 h4 h5 (fun _ _ => rfl) hR hlo hdg (fun H1 locs1 hP _ hS1 => kk H1 locs1 _ rfl ?_ hS1)
  rw [← hcf, wl_setL hl] at hP
  exact hP
end QROWS
