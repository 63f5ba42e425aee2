/-! ===== the relation between the class's memory a and the reference's memory r =====
class: 0 object (6 linkCount, 7 flowCount, 8 nowTick, 9 begun), 2 distances, 4 Port (0 from, 1 to, 2 cost, 3 slowness, 4 delay, 5 quantum, 6 room, 7 on, 8 queued, 9 listed, 10 firstIsServed), 5 queue, 6 list, 7 deficits,
 9 Flow (0 source, 1 sink, 2 count, 3 size, 4 window, 5 patience, 6 birth, 7 base, 8 next, 9 expected, 10 made, 11 arrived, 12 lost, 13 timeouts), 11 Packet (0 inNet, 1 isAnswer, 2 flow, 3 number, 4 size, 5 end, 6 port), 12 Agenda (3 turn), 13 kinds, 14 ticks, 15 turns
reference: 0 object (0 links, 9 flows, 35 begun, 36 now, 37 turns, 38 events), 1 first, 2 second, 3 cost, 4 slow, 5 delay, 6 quantum, 7 room, 8 far, 9 source, 10 sink, 11 all, 12 large, 13 window, 14 patience, 15 birth, 16 base, 17 next, 18 expected,
 19 start, 20 startTurn, 21 timeout, 22 timeoutTurn, 23 tally, 24 state, 25 of, 26 number, 27 answer, 28 port, 29 tick, 30 turn, 31 came, 32 deficit, 33 served -/
/-- the object's own numbers -/
def rG (B : Int) (a r : MemI) : Prop :=
  a.1 0 0 6 = r.1 0 0 0 ∧ 0 ≤ r.1 0 0 0 ∧ r.1 0 0 0 ≤ 12 ∧ a.1 0 0 7 = r.1 0 0 9 ∧ 0 ≤ r.1 0 0 9 ∧ r.1 0 0 9 ≤ 6 ∧
  a.1 0 0 8 = r.1 0 0 36 ∧ 0 ≤ r.1 0 0 36 ∧ r.1 0 0 36 ≤ B ∧ a.1 0 0 9 = r.1 0 0 35 ∧ (r.1 0 0 35 = 0 ∨ r.1 0 0 35 = 1) ∧
  0 ≤ a.1 12 0 3 ∧ a.1 12 0 3 ≤ B ∧ 0 ≤ r.1 0 0 37 ∧ r.1 0 0 37 ≤ B ∧ 0 ≤ r.1 0 0 38 ∧ r.1 0 0 38 ≤ B
/-- links -/
def rK (a r : MemI) : Prop := ∀ l : Nat, (l : Int) < r.1 0 0 0 →
  (0 ≤ r.1 1 0 l ∧ r.1 1 0 l ≤ 7 ∧ 0 ≤ r.1 2 0 l ∧ r.1 2 0 l ≤ 7 ∧ r.1 1 0 l ≠ r.1 2 0 l ∧ 1 ≤ r.1 3 0 l ∧ r.1 3 0 l ≤ 100 ∧ 1 ≤ r.1 4 0 l ∧ r.1 4 0 l ≤ 16 ∧ 0 ≤ r.1 5 0 l ∧ r.1 5 0 l ≤ 40) ∧
  (a.1 4 (2 * l) 0 = r.1 1 0 l ∧ a.1 4 (2 * l) 1 = r.1 2 0 l ∧ a.1 4 (2 * l) 2 = r.1 3 0 l ∧ a.1 4 (2 * l) 3 = r.1 4 0 l ∧ a.1 4 (2 * l) 4 = r.1 5 0 l) ∧
  (a.1 4 (2 * l + 1) 0 = r.1 2 0 l ∧ a.1 4 (2 * l + 1) 1 = r.1 1 0 l ∧ a.1 4 (2 * l + 1) 2 = r.1 3 0 l ∧ a.1 4 (2 * l + 1) 3 = r.1 4 0 l ∧ a.1 4 (2 * l + 1) 4 = r.1 5 0 l)
/-- shapes -/
def rS (a r : MemI) : Prop := ∀ p : Nat, (p : Int) < 2 * r.1 0 0 0 → a.1 4 p 5 = r.1 6 0 p ∧ 1 ≤ r.1 6 0 p ∧ r.1 6 0 p ≤ 16 ∧ a.1 4 p 6 = r.1 7 0 p ∧ 1 ≤ r.1 7 0 p ∧ r.1 7 0 p ≤ 8
/-- distances -/
def rM (r : MemI) : Mx := fun v t => r.1 8 0 (8 * v + t)
def rD (a r : MemI) : Prop := (∀ v t, v < 8 → t < 8 → a.1 2 v t = if rM r v t = 1000000 then -1 else rM r v t) ∧
  mCl (r.1 0 0 0).toNat (r.1 1 0) (r.1 2 0) (r.1 3 0) (rM r) ∧ mGr (r.1 0 0 0).toNat (r.1 1 0) (r.1 2 0) (r.1 3 0) (rM r) ∧ mBd 25600 (rM r)
/-- flows -/
def rF (B : Int) (a r : MemI) : Prop := ∀ f : Nat, (f : Int) < r.1 0 0 9 →
  (a.1 9 f 0 = r.1 9 0 f ∧ 0 ≤ r.1 9 0 f ∧ r.1 9 0 f ≤ 7 ∧ a.1 9 f 1 = r.1 10 0 f ∧ 0 ≤ r.1 10 0 f ∧ r.1 10 0 f ≤ 7 ∧ a.1 9 f 2 = r.1 11 0 f ∧ 1 ≤ r.1 11 0 f ∧ r.1 11 0 f ≤ 100 ∧ a.1 9 f 3 = r.1 12 0 f ∧ 1 ≤ r.1 12 0 f ∧ r.1 12 0 f ≤ 8) ∧
  (a.1 9 f 4 = r.1 13 0 f ∧ 1 ≤ r.1 13 0 f ∧ r.1 13 0 f ≤ 8 ∧ a.1 9 f 5 = r.1 14 0 f ∧ 1 ≤ r.1 14 0 f ∧ r.1 14 0 f ≤ 200 ∧ a.1 9 f 6 = r.1 15 0 f ∧ 0 ≤ r.1 15 0 f ∧ r.1 15 0 f ≤ 1000) ∧
  (a.1 9 f 7 = r.1 16 0 f ∧ 0 ≤ r.1 16 0 f ∧ r.1 16 0 f ≤ 100 ∧ a.1 9 f 8 = r.1 17 0 f ∧ 0 ≤ r.1 17 0 f ∧ r.1 17 0 f ≤ 100 ∧ a.1 9 f 9 = r.1 18 0 f ∧ 0 ≤ r.1 18 0 f ∧ r.1 18 0 f ≤ 100 ∧ r.1 16 0 f ≤ r.1 17 0 f) ∧
  (a.1 9 f 10 = r.1 23 0 (4 * f) ∧ 0 ≤ r.1 23 0 (4 * f) ∧ r.1 23 0 (4 * f) ≤ B ∧ a.1 9 f 11 = r.1 23 0 (4 * f + 1) ∧ 0 ≤ r.1 23 0 (4 * f + 1) ∧ r.1 23 0 (4 * f + 1) ≤ B ∧
   a.1 9 f 12 = r.1 23 0 (4 * f + 2) ∧ 0 ≤ r.1 23 0 (4 * f + 2) ∧ r.1 23 0 (4 * f + 2) ≤ B ∧ a.1 9 f 13 = r.1 23 0 (4 * f + 3) ∧ 0 ≤ r.1 23 0 (4 * f + 3) ∧ r.1 23 0 (4 * f + 3) ≤ B)
/-- what a packet carries -/
def rLab (a r : MemI) (k : Nat) : Prop :=
  a.1 11 k 1 = r.1 27 0 k ∧ (r.1 27 0 k = 0 ∨ r.1 27 0 k = 1) ∧ a.1 11 k 2 = r.1 25 0 k ∧ 0 ≤ r.1 25 0 k ∧ r.1 25 0 k < r.1 0 0 9 ∧ a.1 11 k 3 = r.1 26 0 k ∧ 0 ≤ r.1 26 0 k ∧ r.1 26 0 k ≤ 100 ∧ (r.1 27 0 k = 0 → r.1 26 0 k < 100) ∧
  a.1 11 k 4 = (if r.1 27 0 k = 0 then r.1 12 0 (r.1 25 0 k).toNat else 1) ∧ a.1 11 k 5 = (if r.1 27 0 k = 0 then r.1 10 0 (r.1 25 0 k).toNat else r.1 9 0 (r.1 25 0 k).toNat)
/-- packets; h: the one in hand (64: none) -/
def rP (h : Nat) (a r : MemI) : Prop := (∀ k, k < 64 → k ≠ h →
  (a.1 11 k 0 = 0 ∧ r.1 24 0 k = 0) ∨ (a.1 11 k 0 = 1 ∧ 1 ≤ r.1 24 0 k ∧ r.1 24 0 k ≤ 3 ∧ rLab a r k ∧ a.1 11 k 6 = r.1 28 0 k ∧ 0 ≤ r.1 28 0 k ∧ r.1 28 0 k < 2 * r.1 0 0 0 ∧ 0 ≤ r.1 30 0 k ∧ r.1 30 0 k ≤ r.1 0 0 37)) ∧
  (h < 64 → a.1 11 h 0 = 1 ∧ (r.1 24 0 h = 0 ∨ r.1 24 0 h = 3) ∧ rLab a r h)
/-- a port's queue -/
def rQ (a r : MemI) (p : Nat) : Prop := 0 ≤ a.1 4 p 8 ∧ a.1 4 p 8 ≤ 8 ∧
  (∀ i : Nat, (i : Int) < a.1 4 p 8 → 0 ≤ a.1 5 p i ∧ a.1 5 p i < 64 ∧ r.1 24 0 (a.1 5 p i).toNat = 1 ∧ r.1 28 0 (a.1 5 p i).toNat = p) ∧
  (∀ i j : Nat, i < j → (j : Int) < a.1 4 p 8 → r.1 30 0 (a.1 5 p i).toNat < r.1 30 0 (a.1 5 p j).toNat) ∧
  (∀ k, k < 64 → r.1 24 0 k = 1 → r.1 28 0 k = p → ∃ i : Nat, (i : Int) < a.1 4 p 8 ∧ a.1 5 p i = k)
/-- a port's list of flows -/
def rL (a r : MemI) (p : Nat) : Prop := 0 ≤ a.1 4 p 9 ∧ a.1 4 p 9 ≤ 6 ∧ (a.1 4 p 10 = 0 ∨ a.1 4 p 10 = 1) ∧ (a.1 4 p 9 = 0 → a.1 4 p 10 = 0) ∧
  (∀ i : Nat, (i : Int) < a.1 4 p 9 → 0 ≤ a.1 6 p i ∧ a.1 6 p i < r.1 0 0 9 ∧ (∃ k, k < 64 ∧ r.1 24 0 k = 1 ∧ r.1 28 0 k = p ∧ r.1 25 0 k = a.1 6 p i) ∧
    a.1 7 p (a.1 6 p i).toNat = r.1 32 0 (6 * p + (a.1 6 p i).toNat) ∧ r.1 33 0 (6 * p + (a.1 6 p i).toNat) = (if i = 0 then a.1 4 p 10 else 0) ∧ r.1 31 0 (6 * p + (a.1 6 p i).toNat) ≤ r.1 0 0 37 ∧
    0 ≤ a.1 7 p (a.1 6 p i).toNat ∧ a.1 7 p (a.1 6 p i).toNat ≤ (if i = 0 ∧ a.1 4 p 10 = 1 then 23 else 7) ∧ 0 ≤ r.1 31 0 (6 * p + (a.1 6 p i).toNat)) ∧
  (∀ i j : Nat, i < j → (j : Int) < a.1 4 p 9 → r.1 31 0 (6 * p + (a.1 6 p i).toNat) < r.1 31 0 (6 * p + (a.1 6 p j).toNat)) ∧
  (∀ k, k < 64 → r.1 24 0 k = 1 → r.1 28 0 k = p → ∃ i : Nat, (i : Int) < a.1 4 p 9 ∧ a.1 6 p i = r.1 25 0 k) ∧
  (∀ f : Nat, f < 6 → (∀ i : Nat, (i : Int) < a.1 4 p 9 → a.1 6 p i ≠ f) → a.1 7 p f = 0)
/-- what is on a port -/
def rO (a r : MemI) (p : Nat) : Prop := (a.1 4 p 7 = -1 ∧ ∀ k, k < 64 → r.1 24 0 k = 2 → r.1 28 0 k ≠ p) ∨
  (0 ≤ a.1 4 p 7 ∧ a.1 4 p 7 < 64 ∧ r.1 24 0 (a.1 4 p 7).toNat = 2 ∧ r.1 28 0 (a.1 4 p 7).toNat = p ∧ ∀ k, k < 64 → r.1 24 0 k = 2 → r.1 28 0 k = p → (k : Int) = a.1 4 p 7)
/-- the agenda: kind, tick and turn of slot s in the reference -/
def rk (r : MemI) (h s : Nat) : Int := if s < 6 then (if (s : Int) < r.1 0 0 9 then (if r.1 19 0 s = -1 then (if r.1 21 0 s = -1 then 0 else 4) else 1) else 0) else (if s - 6 = h then 0 else if r.1 24 0 (s - 6) = 2 then 2 else if r.1 24 0 (s - 6) = 3 then 3 else 0)
def rt (r : MemI) (s : Nat) : Int := if s < 6 then (if r.1 19 0 s = -1 then r.1 21 0 s else r.1 19 0 s) else r.1 29 0 (s - 6)
def ru (r : MemI) (s : Nat) : Int := if s < 6 then (if r.1 19 0 s = -1 then r.1 22 0 s else r.1 20 0 s) else r.1 30 0 (s - 6)
def rA (B : Int) (h : Nat) (a r : MemI) : Prop := (∀ s, s < 70 → a.1 13 0 s = rk r h s) ∧
  (∀ s, s < 70 → rk r h s ≠ 0 → a.1 14 0 s = rt r s ∧ 0 ≤ rt r s ∧ rt r s ≤ B ∧ 0 ≤ a.1 15 0 s ∧ a.1 15 0 s < a.1 12 0 3 ∧ 1 ≤ ru r s ∧ ru r s ≤ r.1 0 0 37) ∧
  (∀ s t, s < 70 → t < 70 → s ≠ t → rk r h s ≠ 0 → rk r h t ≠ 0 → (a.1 15 0 s < a.1 15 0 t ∧ ru r s < ru r t) ∨ (a.1 15 0 t < a.1 15 0 s ∧ ru r t < ru r s))
/-- a flow whose START is set has no packet and no timer; before the first event nothing is set -/
def rN (a r : MemI) : Prop := (∀ f : Nat, (f : Int) < r.1 0 0 9 → r.1 19 0 f ≠ -1 → r.1 21 0 f = -1 ∧ ∀ k, k < 64 → a.1 11 k 0 = 1 → r.1 25 0 k ≠ f) ∧
  (r.1 0 0 35 = 0 → (∀ k, k < 64 → a.1 11 k 0 = 0) ∧ ∀ f : Nat, (f : Int) < r.1 0 0 9 → r.1 19 0 f = -1 ∧ r.1 21 0 f = -1)
/-- the latest events -/
def rT (a r : MemI) : Prop := ∀ k : Nat, k < 16 → a.2 k = (if (k : Int) < r.1 0 0 38 then r.2 ((r.1 0 0 38 - 1 - k) % 16).toNat else -1)
def Rel (B : Int) (h : Nat) (a r : MemI) : Prop := rG B a r ∧ rK a r ∧ rS a r ∧ rD a r ∧ rF B a r ∧ rP h a r ∧ (∀ p : Nat, (p : Int) < 2 * r.1 0 0 0 → rQ a r p ∧ rL a r p ∧ rO a r p) ∧ rA B h a r ∧ rN a r ∧ rT a r
