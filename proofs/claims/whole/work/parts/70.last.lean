/-! ===== the end: the invariant of a run of calls ===== -/
def Inv (k : Nat) (a r : MemI) : Prop := Rel (310000 * (k : Int)) 64 a r
theorem oI_of {k : Nat} {a r : MemI} {dX dY : MemI → Option (Int × MemI)} {B : Int} (h : ∃ v a1 r1, dX a = some (v, a1) ∧ dY r = some (v, r1) ∧ Rel B 64 a1 r1) (hB : B ≤ 310000 * (k : Int) + 310000) : oI Inv k a r dX dY := by
  obtain ⟨v, a1, r1, h1, h2, h3⟩ := h
  exact ⟨v, a1, r1, h1, h2, h3.mono (by rw [Int.natCast_add]; omega)⟩
theorem Inv_b : OKb Inv := by
  obtain ⟨a1, r1, h1, h2, h3⟩ := clear_any aZ aZ (B := 310000 * ((0 : Nat) : Int)) (by omega)
  exact ⟨a1, r1, h1, h2, h3⟩
theorem Inv_s : OKs Inv := by
  intro k a r hk H x1 x2 x3 x4 x5 h1 h2 h3 h4 h5
  have H : Rel (310000 * (k : Int)) 64 a r := H
  have hB : 310000 * (k : Int) < 200000000 := by omega
  refine ⟨oI_of (g_link H h1 h2 h3 h4 h5) (by omega), oI_of (g_shape H h1 h2 h3) (by omega), oI_of (g_flow (by omega) H h1 h2 h3 h4) (by omega), oI_of (g_tune H h1 h2 h3 h4) (by omega), ?_, oI_of (g_step H hB) (by omega), oI_of (g_run H hB h1) (by omega), oI_of ((s_now H).goes H) (by omega), oI_of ((s_trace H (by omega) h1).goes H) (by omega), oI_of ((s_distance H h1 h2).goes H) (by omega), oI_of ((s_way H h1 h2).goes H) (by omega), oI_of ((s_waiting H h1 h2).goes H) (by omega), oI_of ((s_deficit H h1 h2).goes H) (by omega), oI_of ((s_onPort H h1).goes H) (by omega), oI_of ((s_timer H h1).goes H) (by omega), oI_of ((s_count H h1 h2).goes H) (by omega)⟩
  obtain ⟨a1, r1, g1, g2, g3⟩ := clear_any a r (B := 310000 * ((k + 1 : Nat) : Int)) (by omega)
  exact ⟨a1, r1, g1, g2, g3⟩
theorem whole_start {p : Program} {e : Env} {s : State} {m : MethodId} {below : List Frame} {meth : Method} {c : Code} (l : Launch) {b L : Nat} {xs : Nat → Int32} (hL : L ≤ 3072) (C0 : lw_At p s m meth c b L xs) : W p l e room_1 s m #[Value.ref b] below meth c s.heap [] 0 0 (lw_Z below #[Value.ref b] s) (entryFrame m ([Value.ref b] : List Value).toArray 4) :=
  law_start l Inv_b Inv_s hL C0
