/-! ===== the clock, the trace, what is set and unset ===== -/
def rem (z : MemI) (kd sub num : Int) : MemI := pM (cM z 0 1 15) 0 ((((z.1 0 0 8 * 1048576) + kd * 65536) + sub * 256) + num)
def nt (z : MemI) (kd sub num : Int) : MemI := pN (pM z (z.1 0 0 38 % 16).toNat ((((z.1 0 0 36 * 1048576) + kd * 65536) + sub * 256) + num)) 0 0 38 (z.1 0 0 38 + 1)
theorem pN_comm (z : MemI) {c i k c2 i2 k2 : Nat} {v v2 : Int} (h : ¬ (c = c2 ∧ i = i2 ∧ k = k2)) : pN (pN z c i k v) c2 i2 k2 v2 = pN (pN z c2 i2 k2 v2) c i k v := by
  refine Prod.ext ?_ rfl
  funext x y w
  rw [pN_if, pN_if, pN_if, pN_if]
  by_cases e1 : x = c2 ∧ y = i2 ∧ w = k2
  · by_cases e2 : x = c ∧ y = i ∧ w = k
    · exact absurd ⟨e2.1.symm.trans e1.1, e2.2.1.symm.trans e1.2.1, e2.2.2.symm.trans e1.2.2⟩ h
    · rw [if_pos e1, if_neg e2, if_pos e1]
  · by_cases e2 : x = c ∧ y = i ∧ w = k
    · rw [if_neg e1, if_pos e2, if_pos e2]
    · rw [if_neg e1, if_neg e2, if_neg e2, if_neg e1]
section EVENTS
variable {B B1 : Int} {h : Nat} {a a1 r r1 : MemI} {f k p : Nat} {t kd sub num : Int}
theorem xrem (h8 : ir (a.1 0 0 8)) (h1 : ir (kd * 65536)) (h2 : ir (sub * 256)) (h3 : ir num) : di_X_remember kd sub num a = some (rem a kd sub num) :=
  acb (by omega) (stNb (azb (j := 0) rfl (by omega) (rgb h8 (rgb h1 (rgb h2 (rgb h3 (stNb rfl)))))))
/-- only the clock -/
theorem now_rel (H : Rel B h a r) (ht : 0 ≤ t ∧ t ≤ B) : Rel B h (pN a 0 0 8 t) (pN r 0 0 36 t) := by
  have hG := H.G
  refine ⟨?_, rK_c (a := a) (r := r) (fun _ _ _ => rfl) rfl rfl rfl rfl rfl rfl H.K, rS_c (a := a) (r := r) (fun _ => ⟨rfl, rfl⟩) rfl rfl rfl H.S, rD_c (a := a) (r := r) rfl rfl rfl rfl rfl rfl H.D, rF_c (a := a) (r := r) rfl rfl (fun c h1 h2 => ?_) rfl (Int.le_refl _) H.F, rP_c (a := a) (r := r) rfl (Int.le_refl _) (Int.le_refl _) (fun _ _ => ⟨rfl, rfl, rfl⟩) rfl rfl rfl rfl rfl rfl (Int.le_refl _) H.P, fun q hq => ⟨rQ_c (a := a) (r := r) rfl rfl rfl rfl rfl (H.Q hq), rL_c (a := a) (r := r) rfl rfl rfl rfl (Int.le_refl _) rfl rfl rfl rfl rfl rfl (Int.le_refl _) (H.L hq), rO_c (a := a) (r := r) rfl rfl rfl (H.O hq)⟩, rA_c (a := a) (r := r) rfl rfl rfl rfl rfl rfl rfl rfl rfl rfl rfl rfl (Int.le_refl _) (Int.le_refl _) H.A, rN_c (a := a) (r := r) (fun _ => rfl) rfl rfl rfl rfl rfl H.N, rT_c (a := a) (r := r) rfl rfl rfl H.T⟩
  · unfold rG at *
    have e1 : (pN a 0 0 8 t).1 0 0 8 = t := rfl
    have e2 : (pN r 0 0 36 t).1 0 0 36 = t := rfl
    have e3 : (pN a 0 0 8 t).1 0 0 6 = a.1 0 0 6 := rfl
    have e4 : (pN a 0 0 8 t).1 0 0 7 = a.1 0 0 7 := rfl
    have e5 : (pN a 0 0 8 t).1 0 0 9 = a.1 0 0 9 := rfl
    have e6 : (pN a 0 0 8 t).1 12 0 3 = a.1 12 0 3 := rfl
    have e7 : (pN r 0 0 36 t).1 0 0 0 = r.1 0 0 0 := rfl
    have e8 : (pN r 0 0 36 t).1 0 0 9 = r.1 0 0 9 := rfl
    have e9 : (pN r 0 0 36 t).1 0 0 35 = r.1 0 0 35 := rfl
    have e10 : (pN r 0 0 36 t).1 0 0 37 = r.1 0 0 37 := rfl
    have e11 : (pN r 0 0 36 t).1 0 0 38 = r.1 0 0 38 := rfl
    rw [e1, e2, e3, e4, e5, e6, e7, e8, e9, e10, e11]
    omega
  · funext i j
    rw [pN_ne (by omega)]
theorem note_rel (H : Rel B h a r) (hB : B < 1000000000) : Rel (B + 1) h (rem a kd sub num) (nt r kd sub num) := by
  have hG := H.G
  have hG2 := hG
  unfold rG at hG2
  have e1 : ∀ c, c ≠ 0 → (nt r kd sub num).1 c = r.1 c := fun c hc => by
    funext i j
    unfold nt
    rw [pN_ne (fun q => hc q.1)]
    rfl
  have e0 : ∀ j, j ≠ 38 → (nt r kd sub num).1 0 0 j = r.1 0 0 j := fun j hj => by
    unfold nt
    rw [pN_ne (by omega)]
    rfl
  have e38 : (nt r kd sub num).1 0 0 38 = r.1 0 0 38 + 1 := pN_at _ _ _ _ _
  refine ⟨?_, rK_c (a := a) (r := r) (fun _ _ _ => rfl) (e0 0 (by decide)) (e1 1 (by decide)) (e1 2 (by decide)) (e1 3 (by decide)) (e1 4 (by decide)) (e1 5 (by decide)) H.K, rS_c (a := a) (r := r) (fun _ => ⟨rfl, rfl⟩) (e0 0 (by decide)) (e1 6 (by decide)) (e1 7 (by decide)) H.S, rD_c (a := a) (r := r) rfl (e0 0 (by decide)) (e1 1 (by decide)) (e1 2 (by decide)) (e1 3 (by decide)) (e1 8 (by decide)) H.D, rF_c (a := a) (r := r) rfl (e0 9 (by decide)) (fun c h1 _ => e1 c (by omega)) (e1 23 (by decide)) (by omega) H.F, rP_c (a := a) (r := r) rfl (by rw [e0 0 (by decide)]; omega) (by rw [e0 9 (by decide)]; omega) (fun g _ => by rw [e1 9 (by decide), e1 10 (by decide), e1 12 (by decide)]; exact ⟨rfl, rfl, rfl⟩) (e1 24 (by decide)) (e1 25 (by decide)) (e1 26 (by decide)) (e1 27 (by decide)) (e1 28 (by decide)) (e1 30 (by decide)) (by rw [e0 37 (by decide)]; omega) H.P,
    fun q hq => ?_, rA_c (a := a) (r := r) rfl rfl rfl rfl (e0 9 (by decide)) (e1 19 (by decide)) (e1 20 (by decide)) (e1 21 (by decide)) (e1 22 (by decide)) (e1 24 (by decide)) (e1 29 (by decide)) (e1 30 (by decide)) (by rw [e0 37 (by decide)]; omega) (by omega) H.A, rN_c (a := a) (r := r) (fun _ => rfl) (e0 9 (by decide)) (e0 35 (by decide)) (e1 19 (by decide)) (e1 21 (by decide)) (e1 25 (by decide)) H.N, fun j hj => ?_⟩
  · unfold rG
    have b : (rem a kd sub num).1 = a.1 := rfl
    rw [b, e0 0 (by decide), e0 9 (by decide), e0 36 (by decide), e0 35 (by decide), e0 37 (by decide), e38]
    omega
  · rw [e0 0 (by decide)] at hq
    exact ⟨rQ_c (a := a) (r := r) rfl rfl (e1 24 (by decide)) (e1 28 (by decide)) (e1 30 (by decide)) (H.Q hq), rL_c (a := a) (r := r) rfl rfl rfl rfl (by rw [e0 9 (by decide)]; omega) (e1 24 (by decide)) (e1 25 (by decide)) (e1 28 (by decide)) (e1 31 (by decide)) (e1 32 (by decide)) (e1 33 (by decide)) (by rw [e0 37 (by decide)]; omega) (H.L hq), rO_c (a := a) (r := r) rfl (e1 24 (by decide)) (e1 28 (by decide)) (H.O hq)⟩
  · rw [e38]
    have yv : ∀ x : Nat, (nt r kd sub num).2 x = if x = (r.1 0 0 38 % 16).toNat then ((((r.1 0 0 36 * 1048576) + kd * 65536) + sub * 256) + num) else r.2 x := fun _ => rfl
    have xv : (rem a kd sub num).2 j = if j = 0 then ((((a.1 0 0 8 * 1048576) + kd * 65536) + sub * 256) + num) else (if 1 ≤ j ∧ j < 16 then a.2 (0 + (j - 1)) else a.2 j) := rfl
    rw [xv, yv]
    by_cases c : j = 0
    · subst c
      rw [if_pos rfl, if_pos (by omega), if_pos (by omega)]
      rw [show a.1 0 0 8 = r.1 0 0 36 by omega]
    · rw [if_neg c, if_pos (by omega), H.T (0 + (j - 1)) (by omega)]
      by_cases d : ((j : Nat) : Int) < r.1 0 0 38 + 1
      · rw [if_pos (by omega), if_pos d, if_neg (by omega)]
        rw [show (r.1 0 0 38 - 1 - ((0 + (j - 1) : Nat) : Int)) = (r.1 0 0 38 + 1 - 1 - (j : Int)) by omega]
      · rw [if_neg (by omega), if_neg d]
/-- a flow's START or TIMEOUT is unset -/
theorem unf_rel (H : Rel B h a r) (hf : (f : Int) < r.1 0 0 9) {c : Nat} (hc : (c = 19 ∧ r.1 19 0 f ≠ -1) ∨ (c = 21 ∧ r.1 19 0 f = -1)) (hbg : r.1 0 0 35 = 1) : Rel B h (pN a 13 0 f 0) (pN r c 0 f (-1)) := by
  have hG := H.G
  have hG2 := hG
  unfold rG at hG2
  have to : r.1 19 0 f ≠ -1 → r.1 21 0 f = -1 := fun q => (H.N.1 f hf q).1
  have e1 : ∀ d, d ≠ c → (pN r c 0 f (-1)).1 d = r.1 d := fun d hd => by
    funext i j
    rw [pN_ne (fun q => hd q.1)]
  have s19 : ∀ g, (pN r c 0 f (-1)).1 19 0 g = if g = f then -1 else r.1 19 0 g := fun g => by
    rcases hc with ⟨rfl, q⟩ | ⟨rfl, q⟩
    · rw [pN_if]
      by_cases e : g = f
      · rw [if_pos e, if_pos ⟨rfl, rfl, e⟩]
      · rw [if_neg e, if_neg (fun q => e q.2.2)]
    · rw [pN_ne (by omega)]
      by_cases e : g = f
      · rw [if_pos e, e, q]
      · rw [if_neg e]
  have s21 : ∀ g, (pN r c 0 f (-1)).1 21 0 g = if g = f then -1 else r.1 21 0 g := fun g => by
    rcases hc with ⟨rfl, q⟩ | ⟨rfl, q⟩
    · rw [pN_ne (by omega)]
      by_cases e : g = f
      · rw [if_pos e, e, to q]
      · rw [if_neg e]
    · rw [pN_if]
      by_cases e : g = f
      · rw [if_pos e, if_pos ⟨rfl, rfl, e⟩]
      · rw [if_neg e, if_neg (fun q => e q.2.2)]
  have c1921 : c = 19 ∨ c = 21 := by omega
  refine ⟨rG_c (a := a) (r := r) (fun _ => rfl) rfl (fun j => by rw [e1 0 (by omega)]) (Int.le_refl _) hG, rK_c (a := a) (r := r) (fun _ _ _ => rfl) (by rw [e1 0 (by omega)]) (e1 1 (by omega)) (e1 2 (by omega)) (e1 3 (by omega)) (e1 4 (by omega)) (e1 5 (by omega)) H.K, rS_c (a := a) (r := r) (fun _ => ⟨rfl, rfl⟩) (by rw [e1 0 (by omega)]) (e1 6 (by omega)) (e1 7 (by omega)) H.S, rD_c (a := a) (r := r) rfl (by rw [e1 0 (by omega)]) (e1 1 (by omega)) (e1 2 (by omega)) (e1 3 (by omega)) (e1 8 (by omega)) H.D, rF_c (a := a) (r := r) rfl (by rw [e1 0 (by omega)]) (fun d h1 h2 => e1 d (by omega)) (e1 23 (by omega)) (Int.le_refl _) H.F, rP_c (a := a) (r := r) rfl (by rw [e1 0 (by omega)]; omega) (by rw [e1 0 (by omega)]; omega) (fun g _ => by rw [e1 9 (by omega), e1 10 (by omega), e1 12 (by omega)]; exact ⟨rfl, rfl, rfl⟩) (e1 24 (by omega)) (e1 25 (by omega)) (e1 26 (by omega)) (e1 27 (by omega)) (e1 28 (by omega)) (e1 30 (by omega)) (by rw [e1 0 (by omega)]; omega) H.P,
    fun q hq => ?_, ?_, ⟨fun g hg hs => ?_, fun q => ?_⟩, rT_c (a := a) (r := r) rfl rfl (by rw [e1 0 (by omega)]) H.T⟩
  · rw [e1 0 (by omega)] at hq
    exact ⟨rQ_c (a := a) (r := r) rfl rfl (e1 24 (by omega)) (e1 28 (by omega)) (e1 30 (by omega)) (H.Q hq), rL_c (a := a) (r := r) rfl rfl rfl rfl (by rw [e1 0 (by omega)]; omega) (e1 24 (by omega)) (e1 25 (by omega)) (e1 28 (by omega)) (e1 31 (by omega)) (e1 32 (by omega)) (e1 33 (by omega)) (by rw [e1 0 (by omega)]; omega) (H.L hq), rO_c (a := a) (r := r) rfl (e1 24 (by omega)) (e1 28 (by omega)) (H.O hq)⟩
  · have rkk : ∀ s, s < 70 → rk (pN r c 0 f (-1)) h s = if s = f then 0 else rk r h s := fun s hs => by
      by_cases d : s < 6
      · by_cases d2 : (s : Int) < r.1 0 0 9
        · rw [rk_f d (by rw [e1 0 (by omega)]; exact d2), s19, s21]
          by_cases e : s = f
          · rw [if_pos e, if_pos e, if_pos e]
            rfl
          · rw [if_neg e, if_neg e, if_neg e, rk_f d d2]
        · rw [rk_f0 d (by rw [e1 0 (by omega)]; exact d2), rk_f0 d d2]
          split <;> rfl
      · obtain ⟨j, rfl⟩ : ∃ j, s = 6 + j := ⟨s - 6, by omega⟩
        rw [if_neg (by omega), rk_k, rk_k, e1 24 (by omega)]
    refine rA_fr (a := a) (r := r) H.A (fun s hs => ?_) (fun s => rfl) (fun s => rfl) rfl (fun s hs hks => ?_) (by rw [e1 0 (by omega)]; omega) (Int.le_refl _)
    · rw [rkk s hs, pN_if]
      by_cases e : s = f
      · rw [if_pos e, if_pos ⟨rfl, rfl, e⟩]
      · rw [if_neg e, if_neg (fun q => e q.2.2)]
        exact H.A.1 s hs
    · rw [rkk s hs] at hks
      by_cases e : s = f
      · rw [if_pos e] at hks
        exact absurd rfl hks
      · rw [if_neg e] at hks
        refine ⟨hks, ?_⟩
        by_cases d : s < 6
        · rw [rt_f d, rt_f d, ru_f d, ru_f d, s19, s21, if_neg e, if_neg e, e1 20 (by omega), e1 22 (by omega)]
          exact ⟨rfl, rfl⟩
        · obtain ⟨j, rfl⟩ : ∃ j, s = 6 + j := ⟨s - 6, by omega⟩
          rw [rt_k, rt_k, ru_k, ru_k, e1 29 (by omega), e1 30 (by omega)]
          exact ⟨rfl, rfl⟩
  · rw [s19] at hs
    by_cases e : g = f
    · rw [if_pos e] at hs
      exact absurd rfl hs
    · rw [if_neg e] at hs
      rw [e1 0 (by omega)] at hg
      have x := H.N.1 g hg hs
      rw [s21, if_neg e, e1 25 (by omega)]
      exact x
  · rw [e1 0 (by omega)] at q
    omega
/-- an ARRIVE is unset: its packet is in hand -/
theorem unk_rel (H : Rel B 64 a r) (hk : k < 64) (hs : r.1 24 0 k = 3) : Rel B k (pN a 13 0 (6 + k) 0) r := by
  have hG := H.G
  have x := (H.P.1 k hk (by omega)).resolve_left (by omega)
  refine ⟨rG_c (a := a) (r := r) (fun _ => rfl) rfl (fun _ => rfl) (Int.le_refl _) hG, rK_c (a := a) (r := r) (fun _ _ _ => rfl) rfl rfl rfl rfl rfl rfl H.K, rS_c (a := a) (r := r) (fun _ => ⟨rfl, rfl⟩) rfl rfl rfl H.S, rD_c (a := a) (r := r) rfl rfl rfl rfl rfl rfl H.D, rF_c (a := a) (r := r) rfl rfl (fun _ _ _ => rfl) rfl (Int.le_refl _) H.F, ⟨fun j hj _ => H.P.1 j hj (by omega), fun _ => ⟨x.1, Or.inr hs, x.2.2.2.1⟩⟩, fun q hq => ⟨rQ_c (a := a) (r := r) rfl rfl rfl rfl rfl (H.Q hq), rL_c (a := a) (r := r) rfl rfl rfl rfl (Int.le_refl _) rfl rfl rfl rfl rfl rfl (Int.le_refl _) (H.L hq), rO_c (a := a) (r := r) rfl rfl rfl (H.O hq)⟩, ?_, rN_c (a := a) (r := r) (fun _ => rfl) rfl rfl rfl rfl rfl H.N, rT_c (a := a) (r := r) rfl rfl rfl H.T⟩
  have rkk : ∀ s, s < 70 → rk r k s = if s = 6 + k then 0 else rk r 64 s := fun s hs => by
    by_cases d : s < 6
    · rw [if_neg (by omega)]
      unfold rk
      rw [if_pos d, if_pos d]
    · obtain ⟨j, rfl⟩ : ∃ j, s = 6 + j := ⟨s - 6, by omega⟩
      rw [rk_k, rk_k]
      by_cases e : j = k
      · rw [if_pos e, if_pos (by omega)]
      · rw [if_neg e, if_neg (show ¬ 6 + j = 6 + k by omega), if_neg (show ¬ j = 64 by omega)]
  refine rA_fr (a := a) (r := r) H.A (fun s hs => ?_) (fun s => rfl) (fun s => rfl) rfl (fun s hs hks => ?_) (Int.le_refl _) (Int.le_refl _)
  · rw [rkk s hs, pN_if]
    by_cases e : s = 6 + k
    · rw [if_pos e, if_pos ⟨rfl, rfl, e⟩]
    · rw [if_neg e, if_neg (fun q => e q.2.2)]
      exact H.A.1 s hs
  · rw [rkk s hs] at hks
    by_cases e : s = 6 + k
    · rw [if_pos e] at hks
      exact absurd rfl hks
    · rw [if_neg e] at hks
      exact ⟨hks, rfl, rfl⟩
/-- a flow's slot is set: START at the beginning, or TIMEOUT -/
theorem setf_rel (H : Rel B h a r) (hB : B + 1 ≤ B1) (hf : (f : Int) < r.1 0 0 9) (hbg : r.1 0 0 35 = 1) (ht : 0 ≤ t ∧ t ≤ B1) {c d : Nat} {kd : Int} (hc : (c = 19 ∧ d = 20 ∧ kd = 1 ∧ r.1 21 0 f = -1 ∧ ∀ j, j < 64 → a.1 11 j 0 = 0) ∨ (c = 21 ∧ d = 22 ∧ kd = 4 ∧ r.1 19 0 f = -1)) :
    Rel B1 h (agS a f kd t) (pN (pN (pN r c 0 f t) 0 0 37 (r.1 0 0 37 + 1)) d 0 f (r.1 0 0 37 + 1)) := by
  have hG := H.G
  have hG2 := hG
  unfold rG at hG2
  generalize hr1 : pN (pN (pN r c 0 f t) 0 0 37 (r.1 0 0 37 + 1)) d 0 f (r.1 0 0 37 + 1) = r1
  have cd : (c = 19 ∧ d = 20) ∨ (c = 21 ∧ d = 22) := by omega
  have e1 : ∀ q, q ≠ 0 → q ≠ c → q ≠ d → r1.1 q = r.1 q := fun q h0 h1 h2 => by
    funext i j
    rw [← hr1, pN_ne (fun x => h2 x.1), pN_ne (fun x => h0 x.1), pN_ne (fun x => h1 x.1)]
  have e0 : ∀ j, j ≠ 37 → r1.1 0 0 j = r.1 0 0 j := fun j hj => by
    rw [← hr1, pN_ne (by omega), pN_ne (by omega), pN_ne (by omega)]
  have e37 : r1.1 0 0 37 = r.1 0 0 37 + 1 := by rw [← hr1, pN_ne (by omega), pN_at]
  have ec : ∀ g, r1.1 c 0 g = if g = f then t else r.1 c 0 g := fun g => by
    rw [← hr1, pN_ne (by omega), pN_ne (by omega), pN_if]
    by_cases e : g = f
    · rw [if_pos e, if_pos ⟨rfl, rfl, e⟩]
    · rw [if_neg e, if_neg (fun q => e q.2.2)]
  have ed : ∀ g, r1.1 d 0 g = if g = f then r.1 0 0 37 + 1 else r.1 d 0 g := fun g => by
    rw [← hr1, pN_if]
    by_cases e : g = f
    · rw [if_pos e, if_pos ⟨rfl, rfl, e⟩]
    · rw [if_neg e, if_neg (fun q => e q.2.2), pN_ne (by omega), pN_ne (by omega)]
  have r2 : r1.2 = r.2 := by rw [← hr1]; rfl
  have ao : ∀ q, q ≠ 12 → q ≠ 13 → q ≠ 14 → q ≠ 15 → (agS a f kd t).1 q = a.1 q := fun q h1 h2 h3 h4 => agS_o h1 h2 h3 h4
  have a4 := ao 4 (by decide) (by decide) (by decide) (by decide)
  have a11 := ao 11 (by decide) (by decide) (by decide) (by decide)
  refine ⟨?_, rK_c (a := a) (r := r) (fun p j _ => by rw [a4]) (e0 0 (by decide)) (e1 1 (by omega) (by omega) (by omega)) (e1 2 (by omega) (by omega) (by omega)) (e1 3 (by omega) (by omega) (by omega)) (e1 4 (by omega) (by omega) (by omega)) (e1 5 (by omega) (by omega) (by omega)) H.K, rS_c (a := a) (r := r) (fun p => by rw [a4]; exact ⟨rfl, rfl⟩) (e0 0 (by decide)) (e1 6 (by omega) (by omega) (by omega)) (e1 7 (by omega) (by omega) (by omega)) H.S, rD_c (a := a) (r := r) (ao 2 (by decide) (by decide) (by decide) (by decide)) (e0 0 (by decide)) (e1 1 (by omega) (by omega) (by omega)) (e1 2 (by omega) (by omega) (by omega)) (e1 3 (by omega) (by omega) (by omega)) (e1 8 (by omega) (by omega) (by omega)) H.D,
    rF_c (a := a) (r := r) (ao 9 (by decide) (by decide) (by decide) (by decide)) (e0 9 (by decide)) (fun q h1 h2 => e1 q (by omega) (by omega) (by omega)) (e1 23 (by omega) (by omega) (by omega)) (by omega) H.F, rP_c (a := a) (r := r) a11 (by rw [e0 0 (by decide)]; omega) (by rw [e0 9 (by decide)]; omega) (fun g _ => by rw [e1 9 (by omega) (by omega) (by omega), e1 10 (by omega) (by omega) (by omega), e1 12 (by omega) (by omega) (by omega)]; exact ⟨rfl, rfl, rfl⟩) (e1 24 (by omega) (by omega) (by omega)) (e1 25 (by omega) (by omega) (by omega)) (e1 26 (by omega) (by omega) (by omega)) (e1 27 (by omega) (by omega) (by omega)) (e1 28 (by omega) (by omega) (by omega)) (e1 30 (by omega) (by omega) (by omega)) (by omega) H.P,
    fun q hq => ?_, ?_, ⟨fun g hg hs => ?_, fun q => ?_⟩, rT_c (a := a) (r := r) rfl r2 (e0 38 (by decide)) H.T⟩
  · unfold rG
    rw [ao 0 (by decide) (by decide) (by decide) (by decide), agS_12, e0 0 (by decide), e0 9 (by decide), e0 36 (by decide), e0 35 (by decide), e0 38 (by decide), e37]
    omega
  · rw [e0 0 (by decide)] at hq
    exact ⟨rQ_c (a := a) (r := r) (by rw [a4]) (ao 5 (by decide) (by decide) (by decide) (by decide)) (e1 24 (by omega) (by omega) (by omega)) (e1 28 (by omega) (by omega) (by omega)) (e1 30 (by omega) (by omega) (by omega)) (H.Q hq), rL_c (a := a) (r := r) (by rw [a4]) (by rw [a4]) (ao 6 (by decide) (by decide) (by decide) (by decide)) (ao 7 (by decide) (by decide) (by decide) (by decide)) (by rw [e0 9 (by decide)]; omega) (e1 24 (by omega) (by omega) (by omega)) (e1 25 (by omega) (by omega) (by omega)) (e1 28 (by omega) (by omega) (by omega)) (e1 31 (by omega) (by omega) (by omega)) (e1 32 (by omega) (by omega) (by omega)) (e1 33 (by omega) (by omega) (by omega)) (by omega) (H.L hq), rO_c (a := a) (r := r) (by rw [a4]) (e1 24 (by omega) (by omega) (by omega)) (e1 28 (by omega) (by omega) (by omega)) (H.O hq)⟩
  · have oth : ∀ g, g ≠ f → r1.1 19 0 g = r.1 19 0 g ∧ r1.1 20 0 g = r.1 20 0 g ∧ r1.1 21 0 g = r.1 21 0 g ∧ r1.1 22 0 g = r.1 22 0 g := fun g hg => by
      rcases cd with ⟨rfl, rfl⟩ | ⟨rfl, rfl⟩
      · rw [ec, ed, if_neg hg, if_neg hg, e1 21 (by omega) (by omega) (by omega), e1 22 (by omega) (by omega) (by omega)]
        exact ⟨rfl, rfl, rfl, rfl⟩
      · rw [ec, ed, if_neg hg, if_neg hg, e1 19 (by omega) (by omega) (by omega), e1 20 (by omega) (by omega) (by omega)]
        exact ⟨rfl, rfl, rfl, rfl⟩
    refine rA_set (s0 := f) (kd := kd) (tk := t) H.A (by omega) (fun s hs => by rw [agS_13, if_neg hs]) (by rw [agS_13, if_pos rfl]) (fun s hs => by rw [agS_14, if_neg hs]) (by rw [agS_14, if_pos rfl]) (fun s hs => by rw [agS_15, if_neg hs]) (by rw [agS_15, if_pos rfl]) agS_12 (by omega) (fun s hs ne => ?_) ?_ (fun s hs ne _ => ?_) ⟨?_, ht⟩ ?_ (by omega) (by omega)
    · by_cases q : s < 6
      · have o := oth s ne
        unfold rk
        rw [if_pos q, if_pos q, e0 9 (by decide), o.1, o.2.2.1]
      · obtain ⟨j, rfl⟩ : ∃ j, s = 6 + j := ⟨s - 6, by omega⟩
        rw [rk_k, rk_k, e1 24 (by omega) (by omega) (by omega)]
    · rw [rk_f (by omega) (by rw [e0 9 (by decide)]; exact hf)]
      rcases hc with ⟨rfl, rfl, rfl, q, -⟩ | ⟨rfl, rfl, rfl, q⟩
      · rw [ec, if_pos rfl, if_neg (by omega)]
      · rw [e1 19 (by omega) (by omega) (by omega), if_pos q, ec, if_pos rfl, if_neg (by omega)]
    · by_cases q : s < 6
      · have o := oth s ne
        rw [rt_f q, rt_f q, ru_f q, ru_f q, o.1, o.2.1, o.2.2.1, o.2.2.2]
        exact ⟨rfl, rfl⟩
      · obtain ⟨j, rfl⟩ : ∃ j, s = 6 + j := ⟨s - 6, by omega⟩
        rw [rt_k, rt_k, ru_k, ru_k, e1 29 (by omega) (by omega) (by omega), e1 30 (by omega) (by omega) (by omega)]
        exact ⟨rfl, rfl⟩
    · rw [rt_f (by omega)]
      rcases hc with ⟨rfl, rfl, rfl, q, -⟩ | ⟨rfl, rfl, rfl, q⟩
      · rw [ec, if_pos rfl, if_neg (by omega)]
      · rw [e1 19 (by omega) (by omega) (by omega), if_pos q, ec, if_pos rfl]
    · rw [ru_f (by omega), e37]
      rcases hc with ⟨rfl, rfl, rfl, q, -⟩ | ⟨rfl, rfl, rfl, q⟩
      · rw [ec, if_pos rfl, if_neg (by omega), ed, if_pos rfl]
        omega
      · rw [e1 19 (by omega) (by omega) (by omega), if_pos q, ed, if_pos rfl]
        omega
  · rw [e0 9 (by decide)] at hg
    rw [a11, e1 25 (by omega) (by omega) (by omega)]
    rcases hc with ⟨rfl, rfl, rfl, q, nop⟩ | ⟨rfl, rfl, rfl, q⟩
    · rw [e1 21 (by omega) (by omega) (by omega)]
      rw [ec] at hs
      by_cases e : g = f
      · subst e
        exact ⟨q, fun j hj hin => by have := nop j hj; omega⟩
      · rw [if_neg e] at hs
        exact H.N.1 g hg hs
    · rw [e1 19 (by omega) (by omega) (by omega)] at hs
      have ne : g ≠ f := fun e => by
        subst e
        exact hs q
      rw [ec, if_neg ne]
      exact H.N.1 g hg hs
  · rw [e0 35 (by decide)] at q
    omega
end EVENTS
