/-! ===== what the relation says of packets, ports, counts ===== -/
theorem rP_st {h k : Nat} {a r : MemI} (H : rP h a r) (hk : k < 64) : 0 ≤ r.1 24 0 k ∧ r.1 24 0 k ≤ 3 := by
  by_cases e : k = h
  · subst e
    have x := (H.2 hk).2.1
    omega
  · rcases H.1 k hk e with x | x
    · omega
    · omega
theorem rP_in {h k : Nat} {a r : MemI} (H : rP h a r) (hk : k < 64) (hs : r.1 24 0 k = 1 ∨ r.1 24 0 k = 2) : k ≠ h ∧ a.1 11 k 0 = 1 ∧ rLab a r k ∧ a.1 11 k 6 = r.1 28 0 k ∧ 0 ≤ r.1 28 0 k ∧ r.1 28 0 k < 2 * r.1 0 0 0 ∧ 0 ≤ r.1 30 0 k ∧ r.1 30 0 k ≤ r.1 0 0 37 := by
  have e : k ≠ h := fun e => by
    subst e
    have x := (H.2 hk).2.1
    omega
  rcases H.1 k hk e with x | x
  · omega
  · exact ⟨e, x.1, x.2.2.2.1, x.2.2.2.2.1, x.2.2.2.2.2.1, x.2.2.2.2.2.2.1, x.2.2.2.2.2.2.2⟩
/-- how many packets of flow f wait at port p -/
def qn (a : MemI) (p : Nat) (f : Int) : Nat := cnt (qx a p f) (a.1 4 p 8).toNat
section READS
variable {B : Int} {h : Nat} {a r : MemI}
theorem Rel.G (H : Rel B h a r) : rG B a r := H.1
theorem Rel.K (H : Rel B h a r) : rK a r := H.2.1
theorem Rel.S (H : Rel B h a r) : rS a r := H.2.2.1
theorem Rel.D (H : Rel B h a r) : rD a r := H.2.2.2.1
theorem Rel.F (H : Rel B h a r) : rF B a r := H.2.2.2.2.1
theorem Rel.P (H : Rel B h a r) : rP h a r := H.2.2.2.2.2.1
theorem Rel.Q (H : Rel B h a r) {p : Nat} (hp : (p : Int) < 2 * r.1 0 0 0) : rQ a r p := (H.2.2.2.2.2.2.1 p hp).1
theorem Rel.L (H : Rel B h a r) {p : Nat} (hp : (p : Int) < 2 * r.1 0 0 0) : rL a r p := (H.2.2.2.2.2.2.1 p hp).2.1
theorem Rel.O (H : Rel B h a r) {p : Nat} (hp : (p : Int) < 2 * r.1 0 0 0) : rO a r p := (H.2.2.2.2.2.2.1 p hp).2.2
theorem Rel.A (H : Rel B h a r) : rA B h a r := H.2.2.2.2.2.2.2.1
theorem Rel.N (H : Rel B h a r) : rN a r := H.2.2.2.2.2.2.2.2.1
theorem Rel.T (H : Rel B h a r) : rT a r := H.2.2.2.2.2.2.2.2.2
theorem rQ_inj {p i j : Nat} (H : rQ a r p) (hi : (i : Int) < a.1 4 p 8) (hj : (j : Int) < a.1 4 p 8) (e : (a.1 5 p i).toNat = (a.1 5 p j).toNat) : i = j := by
  by_cases c : i < j
  · have x := H.2.2.2.1 i j c hj
    rw [e] at x
    omega
  · by_cases d : j < i
    · have x := H.2.2.2.1 j i d hi
      rw [e] at x
      omega
    · omega
/-- in the queue: flow and number as the reference has them -/
theorem rQ_of {p i : Nat} (HP : rP h a r) (H : rQ a r p) (hi : (i : Int) < a.1 4 p 8) : a.1 11 (a.1 5 p i).toNat 2 = r.1 25 0 (a.1 5 p i).toNat ∧ 0 ≤ r.1 25 0 (a.1 5 p i).toNat ∧ r.1 25 0 (a.1 5 p i).toNat < r.1 0 0 9 := by
  have x := H.2.2.1 i hi
  have y := (rP_in HP (k := (a.1 5 p i).toNat) (by omega) (Or.inl x.2.2.1)).2.2.1
  exact ⟨y.2.2.1, y.2.2.2.1, y.2.2.2.2.1⟩
theorem cnt_q {p : Nat} {f : Int} (HP : rP h a r) (H : rQ a r p) : cnt (qy r p f) 64 = cnt (fun i => decide (f = -1 ∨ r.1 25 0 (a.1 5 p i).toNat = f)) (a.1 4 p 8).toNat := by
  have h0 := H.1
  refine cnt_enum (q := fun i => (a.1 5 p i).toNat) (T := fun k => decide (f = -1 ∨ r.1 25 0 k = f)) (fun i hi => ?_) (fun i j hi hj e => rQ_inj H (by omega) (by omega) e) (fun k hk => ?_)
  · have x := H.2.2.1 i (by omega)
    show (a.1 5 p i).toNat < 64
    omega
  · refine ⟨fun q => ?_, fun q => ?_⟩
    · have q1 := of_decide_eq_true q
      obtain ⟨i, hi, e⟩ := H.2.2.2.2 k hk q1.1 q1.2.1
      exact ⟨⟨i, by omega, by show (a.1 5 p i).toNat = k; omega⟩, decide_eq_true q1.2.2⟩
    · obtain ⟨⟨i, hi, e⟩, q2⟩ := q
      have e1 : (a.1 5 p i).toNat = k := e
      have x := H.2.2.1 i (by omega)
      rw [e1] at x
      exact decide_eq_true ⟨x.2.2.1, x.2.2.2, of_decide_eq_true q2⟩
theorem cnt_all {n : Nat} : cnt (fun _ => true) n = n := by
  induction n with
  | zero => rfl
  | succ n ih =>
    show cnt (fun _ => true) n + 1 = n + 1
    rw [ih]
theorem yq_all (H : Rel B h a r) {p : Nat} (hp : (p : Int) < 2 * r.1 0 0 0) : di_Y_queued p (-1) r = some (a.1 4 p 8, r) := by
  have hG := H.G
  have hQ := H.Q hp
  have h0 := hQ.1
  unfold rG at hG
  rw [yqueued (fun k hk => by have := rP_st H.P hk; unfold ir; omega) (fun k hk hs => by have := rP_in H.P hk (Or.inl hs); have h9 := this.2.2.1; unfold rLab at h9; unfold ir; omega) (by unfold ir; omega) (by unfold ir; omega), cnt_q H.P hQ, cnt_congr (w := fun _ => true) (fun k _ => by simp), cnt_all]
  refine congrArg some (Prod.ext ?_ rfl)
  show (((a.1 4 p 8).toNat : Nat) : Int) = a.1 4 p 8
  omega
theorem yq_of (H : Rel B h a r) {p : Nat} (hp : (p : Int) < 2 * r.1 0 0 0) {f : Int} (hf : 0 ≤ f ∧ f < 6) : di_Y_queued p f r = some ((qn a p f : Int), r) := by
  have hG := H.G
  have hQ := H.Q hp
  unfold rG at hG
  rw [yqueued (fun k hk => by have := rP_st H.P hk; unfold ir; omega) (fun k hk hs => by have := rP_in H.P hk (Or.inl hs); have h9 := this.2.2.1; unfold rLab at h9; unfold ir; omega) (by unfold ir; omega) (by unfold ir; omega), cnt_q H.P hQ]
  unfold qn
  rw [cnt_congr (w := qx a p f) (fun k hk => ?_)]
  have x := rQ_of H.P hQ (i := k) (by omega)
  unfold qx
  rw [x.1]
  have hf1 : ¬ f = -1 := by omega
  simp [hf1]
theorem xq_of (H : Rel B h a r) {p : Nat} (hp : (p : Int) < 2 * r.1 0 0 0) {f : Int} (hf : ir f) : di_X_queuedOf p f a = some ((qn a p f : Int), a) := by
  have hG := H.G
  have hQ := H.Q hp
  unfold rG at hG
  have h0 := hQ.1
  have h8 := hQ.2.1
  refine xqueued (N := (a.1 4 p 8).toNat) (by omega) (by omega) (fun i hi => ?_) hf
  have x := hQ.2.2.1 i (by omega)
  have y := rQ_of H.P hQ (i := i) (by omega)
  exact ⟨x.1, x.2.1, by unfold ir; omega⟩
theorem yon_r (H : Rel B h a r) {p : Nat} (hp : (p : Int) < 2 * r.1 0 0 0) : di_Y_on p r = some (a.1 4 p 7, r) := by
  have hG := H.G
  have hO := H.O hp
  unfold rG at hG
  refine yon (fun k hk => by have := rP_st H.P hk; unfold ir; omega) (fun k hk hs => by have := rP_in H.P hk (Or.inr hs); unfold ir; omega) (by unfold ir; omega) (fun k hk h1 h2 => ?_) ?_
  · rcases hO with x | x
    · exact absurd h2 (x.2 k hk h1)
    · exact x.2.2.2.2 k hk h1 h2
  · rcases hO with x | x
    · exact Or.inr x.1
    · exact Or.inl ⟨(a.1 4 p 7).toNat, by omega, x.2.2.1, x.2.2.2.1⟩
/-- a flow is listed at a port just if a packet of it waits there -/
theorem qn_pos (H : Rel B h a r) {p f : Nat} (hp : (p : Int) < 2 * r.1 0 0 0) : 0 < qn a p f ↔ ∃ i : Nat, (i : Int) < a.1 4 p 9 ∧ a.1 6 p i = f := by
  have hQ := H.Q hp
  have hL := H.L hp
  have h0 := hQ.1
  refine ⟨fun q => ?_, fun q => ?_⟩
  · obtain ⟨i, hi, e⟩ := cnt_pos q
    have e1 : a.1 11 (a.1 5 p i).toNat 2 = f := of_decide_eq_true e
    have x := hQ.2.2.1 i (by omega)
    have y := rQ_of H.P hQ (i := i) (by omega)
    obtain ⟨j, hj, e2⟩ := hL.2.2.2.2.2.2.1 (a.1 5 p i).toNat (by omega) x.2.2.1 x.2.2.2
    exact ⟨j, hj, by omega⟩
  · obtain ⟨i, hi, e⟩ := q
    obtain ⟨-, -, ⟨k, hk, k1, k2, k3⟩, -⟩ := hL.2.2.2.2.1 i hi
    obtain ⟨j, hj, e2⟩ := hQ.2.2.2.2 k hk k1 k2
    refine cnt_pos_of (k := j) ?_ (by omega)
    have y := rQ_of H.P hQ (i := j) hj
    have e3 : (a.1 5 p j).toNat = k := by omega
    rw [e3] at y
    refine decide_eq_true ?_
    rw [e3]
    omega
end READS
