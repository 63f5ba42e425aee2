/-! THE CLAIM OUT OF ONE WALK OF THE LAW'S BODY. Your part is whole_start (and what it stands on); all else here is the same for every law, but numbers. -/
def R_law : String := "DeficitNetLaw"
def lw_P (b : Addr) (xs : List Int32) (args : Array Value) (s : State) : Prop := args = #[.ref b] ∧ s.IntsAt b xs ∧ xs.length ≤ 3072 ∧ (Jvm.Cond.and given_1 narrow_1).before args s = true
def lw_Q (_ : Array Value) (s : State) (o : Outcome) (t : State) : Prop := o = .returned (some (.int 1)) ∧ Framed s o t [] 600000 7302250
def lw_Z (below : List Frame) (a : Array Value) (s : State) : State → Prop := fun t => ∃ o, t.status = .running ∧ Ended t below o ∧ lw_Q a s o t
/-- the law's own end, with 1 on the stack, nothing written that was there before, its room as the claim has it -/
theorem lw_ret {p : Program} {l : Launch} {e : Env} {s : State} {m : MethodId} {below : List Frame} {meth : Method} {c : Code} {b : Nat} (hx : p.tables.exec = Jvm.exec) (hb : c.code = code) (hr : meth.sig.returnType = ret) (hlocks : meth.locks = false) {pc : Nat} {H : Heap} {ls : Array Slot} (hdg : decode code pc = .ok (.ireturn, 1)) : W p l e room_1 s m #[Value.ref b] below meth c H [] 600000 7302250 (lw_Z below #[Value.ref b] s) (F0 m pc ls [.int 1]) := by
  intro T hT X
  obtain ⟨fs, hret, hrun, hended, hW, hframe⟩ := X.leave (v := some (.int 1)) (hlocks := hlocks) (fun h => by rw [hr] at h; cases h)
  have hmeth' : T.vm.method? m = some meth := X.method'
  refine ⟨T.setFrames fs, ?_, .returned (some (.int 1)), hrun, hended, rfl, ⟨_, rfl⟩, hW, hframe⟩
  jvm_step X.here [X.here.top, hx, hb, hdg, hmeth', hr, ret, narrow_b1]
  (try refine ⟨rfl, ?_⟩); (try refine ⟨rfl, ?_⟩)
  first | (intro acts; rw [hret _ acts rfl rfl rfl]) | rw [hret _ _ rfl rfl rfl]
  exact Steps.refl _
/-- what holds at the law's entry: the machine, the code, the tables' words (any of lw_tbl by 'hts w (by decide +kernel)'), the script of L ints xs at the cell b, what the Statement gives of the start (any of its parts by flat_of_before) -/
def lw_At (p : Program) (s : State) (m : MethodId) (meth : Method) (c : Code) (b L : Nat) (xs : Nat → Int32) : Prop :=
  p.tables.exec = Jvm.exec ∧ c.code = code ∧ meth.sig.returnType = ret ∧ c.maxLocals = 4 ∧ s.vm.findClass R_law = some m.cls ∧ (∀ w ∈ lw_tbl, w.before #[Value.ref b] s = true) ∧ va_X b L xs s s.heap ∧ b < s.heap.size ∧ meth.locks = false ∧ (Jvm.Cond.and given_1 narrow_1).before #[Value.ref b] s = true
def ir (x : Int) : Prop := -2147483648 ≤ x ∧ x < 2147483648
/-- one call on both sides: the same answer, and the invariant again -/
def oI (Inv : Nat → MemI → MemI → Prop) (k : Nat) (a r : MemI) (dX dY : MemI → Option (Int × MemI)) : Prop := ∃ v a1 r1, dX a = some (v, a1) ∧ dY r = some (v, r1) ∧ Inv (k + 1) a1 r1
def oV (Inv : Nat → MemI → MemI → Prop) (k : Nat) (a r : MemI) (dX dY : MemI → Option MemI) : Prop := ∃ a1 r1, dX a = some a1 ∧ dY r = some r1 ∧ Inv (k + 1) a1 r1
def OKs (Inv : Nat → MemI → MemI → Prop) : Prop := ∀ (k : Nat) (a r : MemI), k < 512 → Inv k a r → ∀ x1 x2 x3 x4 x5 : Int, ir x1 → ir x2 → ir x3 → ir x4 → ir x5 →
  oI Inv k a r (di_X_link x1 x2 x3 x4 x5) (di_Y_link x1 x2 x3 x4 x5) ∧
  oI Inv k a r (di_X_shape x1 x2 x3) (di_Y_shape x1 x2 x3) ∧
  oI Inv k a r (di_X_flow x1 x2 x3 x4) (di_Y_flow x1 x2 x3 x4) ∧
  oI Inv k a r (di_X_tune x1 x2 x3 x4) (di_Y_tune x1 x2 x3 x4) ∧
  oV Inv k a r di_X_clear di_Y_clear ∧
  oI Inv k a r (di_X_step) (di_Y_step) ∧
  oI Inv k a r (di_X_run x1) (di_Y_run x1) ∧
  oI Inv k a r (di_X_now) (di_Y_now) ∧
  oI Inv k a r (di_X_trace x1) (di_Y_trace x1) ∧
  oI Inv k a r (di_X_distance x1 x2) (di_Y_distance x1 x2) ∧
  oI Inv k a r (di_X_way x1 x2) (di_Y_way x1 x2) ∧
  oI Inv k a r (di_X_waiting x1 x2) (di_Y_waiting x1 x2) ∧
  oI Inv k a r (di_X_deficit x1 x2) (di_Y_deficit x1 x2) ∧
  oI Inv k a r (di_X_onPort x1) (di_Y_onPort x1) ∧
  oI Inv k a r (di_X_timer x1) (di_Y_timer x1) ∧
  oI Inv k a r (di_X_count x1 x2) (di_Y_count x1 x2)
def aZ : MemI := (fun _ _ _ => 0, fun _ => 0)
theorem EE_aZ : EE aZ = mz := rfl
def OKb (Inv : Nat → MemI → MemI → Prop) : Prop := ∃ a r, di_X_clear aZ = some a ∧ di_Y_clear aZ = some r ∧ Inv 0 a r
theorem rt32 (x : Int32) : x = Int32.ofInt x.toInt := (Int32.ofInt_toInt x).symm
theorem ir32 (x : Int32) : ir x.toInt := ⟨by have := Int32.le_toInt x; omega, by have := Int32.toInt_lt x; omega⟩
theorem aiz_at {n j : Nat} {x : Int} (h : x = j) (hj : j < n) : aiz n x = some j := by
  rw [aiz_ok (by omega), h]
  rfl
theorem and15 (x : Int32) : 0 ≤ (x &&& 15).toInt ∧ (x &&& 15).toInt ≤ 15 := by
  have h : (x &&& 15).toBitVec.toNat ≤ 15 := by
    rw [Int32.toBitVec_and, BitVec.toNat_and]
    exact Nat.and_le_right
  unfold Int32.toInt
  rw [BitVec.toInt_eq_toNat_cond]
  split <;> omega
section KLAW
variable {p : Program} {l : Launch} {e : Env} {R : Room} {s : State} {m : MethodId} {args : Array Value} {below : List Frame} {meth : Method} {c : Code} {H : Heap} {locs : List Loc} {cells slots : Nat} {Q : State → Prop}
variable {cc : ByteArray} {pc : Nat} {ls : Array Slot} {rest st : List Value} {A : Nat → Prop} {H0 : Heap}
theorem k_sld (hx : p.tables.exec = Jvm.exec) (hb : c.code = cc) {b L : Nat} {xs : Nat → Int32} (hX : va_X b L xs s H0) (hbl : b < H0.size) (hbA : ¬ A b) (hS : va_S A H0 H locs) {i : Int32} {j : Nat} (hj : aix L i = some j) (hdg : decode cc pc = .ok (.iaload, 1))
    (kk : W p l e R s m args below meth c H locs cells slots Q (F0 m (pc + 1) ls (.int (xs j) :: rest))) : W p l e R s m args below meth c H locs cells slots Q (F0 m pc ls (.int i :: .ref b :: rest)) := by
  obtain ⟨hin, rfl, -⟩ := aix_some hj
  exact va_sld hx hb hX hbl hbA hS hin hdg kk
end KLAW
/-- the classes and array classes, as the tables have them -/
theorem arr_of {s : State} {args : Array Value} {ty : FieldType} (h : (Cond.arrayClass ty).before args s = true) (hty : ∀ cA, s.vm.findClass ("[" ++ ty.toString) = some cA → va_RA s cA ty) : ∃ cA, ArrOfT s cA ty ∧ va_RA s cA ty := by
  obtain ⟨cA, k, comp, h1, h2, h3⟩ := Cond.arrayClass_spec h
  exact ⟨cA, fun n z => ⟨fun k h => (by cases h), k, h2, comp, h3⟩, hty cA h1⟩
theorem arr_ofO {s : State} {C : String} (h : va_AO C s) : ∃ cA, ArrOfT s cA (.object C) ∧ va_RA s cA (.object C) := by
  obtain ⟨comp, cA, k, h1, h2, h3, h4, h5⟩ := Cond.arrayOver_spec h
  exact ⟨cA, fun n z => ⟨fun k h => (by cases h), k, h3, comp, h4⟩, k, comp, h3, h4, h1, h5⟩
theorem arr_ofI {s : State} (h : aoI s) : ∃ cA, ArrOfT s cA (.array .int) ∧ va_RA s cA (.array .int) := by
  obtain ⟨comp, cA, k, x, h1, h2, h3, h4, h5⟩ := aoI_spec h
  exact ⟨cA, fun n z => ⟨fun k h => (by cases h), k, h3, x, h4⟩, h5⟩
theorem known {s : State} {args : Array Value} (hts : ∀ w ∈ wT, w.before args s = true) (hN : xN s) : ∃ G : GG, va_K G.1 cls6 (tysG G) s := by
  obtain ⟨c0, i0, h0⟩ := u_known hts in_X (hts _ ti_11)
  obtain ⟨c1, i1, h1⟩ := u_known hts in_A (hts _ ti_185)
  obtain ⟨c2, i2, h2⟩ := u_known hts in_F (hts _ ti_85)
  obtain ⟨c3, i3, h3⟩ := u_known hts in_K (hts _ ti_151)
  obtain ⟨c4, i4, h4⟩ := u_known hts in_P (hts _ ti_22)
  obtain ⟨c5, i5, h5⟩ := u_known hts in_Y (hts _ ti_463)
  obtain ⟨a0, g0⟩ := arr_of (hts _ ti_82) (fun _ h => h)
  obtain ⟨a1, g1⟩ := arr_of (hts _ ti_252) (fun _ h => h)
  obtain ⟨a2, g2⟩ := arr_of (hts _ ti_601) (fun _ h => h)
  obtain ⟨a3, g3⟩ := arr_ofI hN.1
  obtain ⟨a4, g4⟩ := arr_ofO hN.2.1
  obtain ⟨a5, g5⟩ := arr_ofO hN.2.2.1
  obtain ⟨a6, g6⟩ := arr_ofO hN.2.2.2.1
  refine ⟨((fun k => match k with | 0 => c0 | 1 => c1 | 2 => c2 | 3 => c3 | 4 => c4 | _ => c5, fun k => match k with | 0 => i0 | 1 => i1 | 2 => i2 | 3 => i3 | 4 => i4 | _ => i5), fun k => match k with | 0 => a0 | 1 => a1 | 2 => a2 | 3 => a3 | 4 => a4 | 5 => a5 | _ => a6), fun k q hq => ?_, fun k q hq => ?_⟩
  · match k, hq with
    | 0, hq => cases hq; exact h0
    | 1, hq => cases hq; exact h1
    | 2, hq => cases hq; exact h2
    | 3, hq => cases hq; exact h3
    | 4, hq => cases hq; exact h4
    | 5, hq => cases hq; exact h5
    | (n + 6), hq => cases hq
  · match k, hq with
    | 0, hq => cases hq; exact g0
    | 1, hq => cases hq; exact g1
    | 2, hq => cases hq; exact g2
    | 3, hq => cases hq; exact g3
    | 4, hq => cases hq; exact g4
    | 5, hq => cases hq; exact g5
    | 6, hq => cases hq; exact g6
    | (n + 7), hq => cases hq
theorem sw_out0_15 {x : Int32} (hx : 0 ≤ x.toInt ∧ x.toInt ≤ 15) (h0 : ¬ x = (0 : Int32)) (h1 : ¬ x = (1 : Int32)) (h2 : ¬ x = (2 : Int32)) (h3 : ¬ x = (3 : Int32)) (h4 : ¬ x = (4 : Int32)) (h5 : ¬ x = (5 : Int32)) (h6 : ¬ x = (6 : Int32)) (h7 : ¬ x = (7 : Int32)) (h8 : ¬ x = (8 : Int32)) (h9 : ¬ x = (9 : Int32)) (h10 : ¬ x = (10 : Int32)) (h11 : ¬ x = (11 : Int32)) (h12 : ¬ x = (12 : Int32)) (h13 : ¬ x = (13 : Int32)) (h14 : ¬ x = (14 : Int32)) (h15 : ¬ x = (15 : Int32)) : False := by
  have hh : x.toInt = 0 ∨ x.toInt = 1 ∨ x.toInt = 2 ∨ x.toInt = 3 ∨ x.toInt = 4 ∨ x.toInt = 5 ∨ x.toInt = 6 ∨ x.toInt = 7 ∨ x.toInt = 8 ∨ x.toInt = 9 ∨ x.toInt = 10 ∨ x.toInt = 11 ∨ x.toInt = 12 ∨ x.toInt = 13 ∨ x.toInt = 14 ∨ x.toInt = 15 := by omega
  rcases hh with e | e | e | e | e | e | e | e | e | e | e | e | e | e | e | e
  · exact h0 (Int32.toInt_inj.mp (e.trans (by decide)))
  · exact h1 (Int32.toInt_inj.mp (e.trans (by decide)))
  · exact h2 (Int32.toInt_inj.mp (e.trans (by decide)))
  · exact h3 (Int32.toInt_inj.mp (e.trans (by decide)))
  · exact h4 (Int32.toInt_inj.mp (e.trans (by decide)))
  · exact h5 (Int32.toInt_inj.mp (e.trans (by decide)))
  · exact h6 (Int32.toInt_inj.mp (e.trans (by decide)))
  · exact h7 (Int32.toInt_inj.mp (e.trans (by decide)))
  · exact h8 (Int32.toInt_inj.mp (e.trans (by decide)))
  · exact h9 (Int32.toInt_inj.mp (e.trans (by decide)))
  · exact h10 (Int32.toInt_inj.mp (e.trans (by decide)))
  · exact h11 (Int32.toInt_inj.mp (e.trans (by decide)))
  · exact h12 (Int32.toInt_inj.mp (e.trans (by decide)))
  · exact h13 (Int32.toInt_inj.mp (e.trans (by decide)))
  · exact h14 (Int32.toInt_inj.mp (e.trans (by decide)))
  · exact h15 (Int32.toInt_inj.mp (e.trans (by decide)))
def LwC (p : Program) (s : State) (m : MethodId) (meth : Method) (c : Code) (b0 L : Nat) (xs : Nat → Int32) (G : GG) : Prop :=
  p.tables.exec = Jvm.exec ∧ c.code = code ∧ c.maxLocals = 4 ∧ s.vm.findClass "DeficitNetLaw" = some m.cls ∧ (∀ w ∈ wT, w.before #[Value.ref b0] s = true) ∧ va_X b0 L xs s s.heap ∧ b0 < s.heap.size ∧ va_K G.1 cls6 (tysG G) s ∧ meth.sig.returnType = ret ∧ meth.locks = false
theorem off_X {bX bY q : Nat} (h : bX + 184 ≤ bY) (hq : rgL LY bY q) : ¬ rgL LX bX q := fun w => by
  have h1 : bY ≤ q := hq.1
  have h2 : q < bX + 184 := w.2
  omega
theorem off_Y {bX bY q : Nat} (h : bX + 184 ≤ bY) (hq : rgL LX bX q) : ¬ rgL LY bY q := fun w => by
  have h1 : bY ≤ q := w.1
  have h2 : q < bX + 184 := hq.2
  omega
