def toldR (M : Mem) : Prop := (0 ≤ M 0 22 ∧ M 0 22 ≤ 8) ∧ ∀ k : Int, 0 ≤ k → k < M 0 22 → (0 ≤ M 9 (2 * k) ∧ M 9 (2 * k) ≤ 12) ∧ (0 ≤ M 9 (2 * k + 1) ∧ M 9 (2 * k + 1) ≤ 21)
def lieR (f : Int → Int) (M : Mem) : Nat → Bool := fun k => decide (M 9 (2 * (k : Int) + 1) ≠ capN f (M 9 (2 * (k : Int))).toNat 27)
def liesR (f : Int → Int) (M : Mem) : Int := ((bitsOf (lieR f M) (M 0 22).toNat : Nat) : Int)
theorem lieR_eq (f : Int → Int) (M : Mem) {k : Int} (h : 0 ≤ k) : lieR f M k.toNat = decide (M 9 (2 * k + 1) ≠ capN f (M 9 (2 * k)).toNat 27) := by
  unfold lieR
  rw [show ((k.toNat : Nat) : Int) = k by omega]
theorem bor_zero {x : Int} (h0 : 0 ≤ x) (h1 : x < 2147483648) : bor x 0 = x := by
  obtain ⟨n, rfl⟩ : ∃ n : Nat, x = (n : Int) := ⟨x.toNat, by omega⟩
  have := bor_nat n 0 (by omega) (by decide)
  rw [Nat.or_zero] at this
  exact this
theorem bits_rng (q : Nat → Bool) {n : Nat} (h : n ≤ 20) : 0 ≤ ((bitsOf q n : Nat) : Int) ∧ ((bitsOf q n : Nat) : Int) < 2147483648 := by
  have h1 := bitsOf_lt q n
  have h2 : 2 ^ n ≤ 2 ^ 20 := Nat.pow_le_pow_right (by decide) h
  omega
def mayR (f : Int → Int) (M : Mem) : Nat → Bool := fun i => decide (liesR (setF f 27 (i : Int)) M = 0)
/-! by some breaks -/
def bitR : Nat → (Int → Int) → Int → Int → (Int → Int) × Int
  | 0, f, w, _ => (f, w)
  | n + 1, f, w, x => bitR n (passCap f (x % 2)) (w * (if x % 2 = 1 then f 45 else 8 - f 45)) (x / 2)
theorem bitR_0 {f : Int → Int} {w x : Int} : bitR 0 f w x = (f, w) := by rw [bitR]
theorem bitR_S {n : Nat} {f : Int → Int} {w x : Int} : bitR (n + 1) f w x = bitR n (passCap f (x % 2)) (w * (if x % 2 = 1 then f 45 else 8 - f 45)) (x / 2) := by rw [bitR]
def sumI (g : Int → Int) : Nat → Int
  | 0 => 0
  | k + 1 => sumI g k + g k
theorem sumI_0 {g : Int → Int} : sumI g 0 = 0 := rfl
theorem sumI_S {g : Int → Int} {k : Nat} : sumI g (k + 1) = sumI g k + g k := rfl
theorem sumI_two (g : Int → Int) : ∀ m : Nat, sumI g (2 * m) = sumI (fun r => g (2 * r)) m + sumI (fun r => g (2 * r + 1)) m
  | 0 => rfl
  | m + 1 => by
    rw [show 2 * (m + 1) = 2 * m + 1 + 1 by omega, sumI_S, sumI_S, sumI_two g m, sumI_S, sumI_S]
    have e1 : ((2 * m : Nat) : Int) = 2 * (m : Int) := by omega
    have e2 : ((2 * m + 1 : Nat) : Int) = 2 * (m : Int) + 1 := by omega
    rw [e1, e2]
    omega
theorem sumI_congr {g h : Int → Int} : ∀ m : Nat, (∀ k : Nat, k < m → g k = h k) → sumI g m = sumI h m
  | 0, _ => rfl
  | m + 1, hh => by rw [sumI_S, sumI_S, sumI_congr m (fun k hk => hh k (by omega)), hh m (by omega)]
theorem bitR_even {n : Nat} {f : Int → Int} {w x : Int} : bitR (n + 1) f w (2 * x) = bitR n (passCap f 0) (w * (8 - f 45)) x := by
  rw [bitR_S, show 2 * x % 2 = 0 by omega, show 2 * x / 2 = x by omega, if_neg (by decide)]
theorem bitR_odd {n : Nat} {f : Int → Int} {w x : Int} : bitR (n + 1) f w (2 * x + 1) = bitR n (passCap f 1) (w * f 45) x := by
  rw [bitR_S, show (2 * x + 1) % 2 = 1 by omega, show (2 * x + 1) / 2 = x by omega, if_pos rfl]
theorem passCap_spot (f : Int → Int) (w i : Int) : spotF (passCap f w) i = spotF f i := by unfold spotF; rw [passCap_47]
theorem spot_inj {f : Int → Int} (hc : 3 ≤ f 47 ∧ f 47 ≤ 9) {a b : Int} (ha : (0 ≤ a ∧ a < f 47) ∨ a = 20 ∨ a = 21) (hb : (0 ≤ b ∧ b < f 47) ∨ b = 20 ∨ b = 21) : spotF f a = spotF f b ↔ a = b := by
  constructor
  · intro h
    unfold spotF at h
    revert h
    (repeat' split) <;> omega
  · rintro rfl; rfl
theorem brS_zero {f : Int → Int} (h : InvF f) (n : Nat) (i : Int) : brS n f 0 i = 0 := by
  have := brS_rng n f 0 i (by decide) h.2.2.2.1.1 (by have := h.2.2.2.1; omega)
  rw [Int.zero_mul] at this
  omega
theorem brS_split {f : Int → Int} (h : InvF f) (hm : f 46 < 100000) (n : Nat) (w i : Int) : brS (n + 1) f w i = brS n (passCap f 0) (w * (8 - f 45)) i + brS n (passCap f 1) (w * f 45) i := by
  by_cases e : f 47 ≤ f 27
  · have p0 : ∀ v, passCap f v = f := fun v => by unfold passCap; rw [if_pos e]
    rw [p0, p0, brS_over e, brS_over e, brS_over e]
    split
    · rw [Int.pow_succ, ← Int.add_mul, ← Int.mul_add, show 8 - f 45 + f 45 = 8 by omega, Int.mul_assoc, Int.mul_comm 8]
    · rfl
  · rw [brS_on e]
    by_cases e2 : 0 < f 45
    · rw [if_pos e2]
    · have := h.2.2.2.1
      rw [if_neg e2, show f 45 = 0 by omega, Int.mul_zero, brS_zero (passCap_inv h hm 1)]
theorem odds_sum : ∀ (n : Nat) (f : Int → Int) (w i : Int), InvF f → f 46 + n ≤ 100000 → ((0 ≤ i ∧ i < f 47) ∨ i = 20 ∨ i = 21) → sumI (fun x => if (bitR n f w x).1 27 = i then (bitR n f w x).2 else 0) (2 ^ n) = brS n f w (spotF f i)
  | 0, f, w, i, h, _, hi => by
    have e : (spotF f i = spotF f (f 27)) ↔ (f 27 = i) := by rw [spot_inj h.1 hi h.2.1]; exact ⟨fun q => q.symm, fun q => q.symm⟩
    show 0 + (if (bitR 0 f w 0).1 27 = i then (bitR 0 f w 0).2 else 0) = _
    rw [bitR_0, brS_0, Int.zero_add]
    by_cases q : f 27 = i
    · rw [if_pos (e.2 q), if_pos q]
    · rw [if_neg (fun z => q (e.1 z)), if_neg q]
  | n + 1, f, w, i, h, hm, hi => by
    rw [Nat.pow_succ, Nat.mul_comm, sumI_two, brS_split h (by omega)]
    congr 1
    · rw [← passCap_spot f 0 i, ← odds_sum n (passCap f 0) (w * (8 - f 45)) i (passCap_inv h (by omega) 0) (by have := (passCap_min f 0).1; omega) (by rw [passCap_47]; exact hi)]
      exact sumI_congr _ (fun k _ => by rw [bitR_even])
    · rw [← passCap_spot f 1 i, ← odds_sum n (passCap f 1) (w * f 45) i (passCap_inv h (by omega) 1) (by have := (passCap_min f 1).1; omega) (by rw [passCap_47]; exact hi)]
      exact sumI_congr _ (fun k _ => by rw [bitR_odd])
theorem sumTo_add (g h : Int → Int) : ∀ n : Nat, sumTo (fun i => g i + h i) n = sumTo g n + sumTo h n
  | 0 => rfl
  | n + 1 => by
    show sumTo (fun i => g i + h i) n + (g n + h n) * n = sumTo g n + g n * n + (sumTo h n + h n * n)
    rw [sumTo_add g h n, Int.add_mul]
    omega
theorem sumTo_one (w : Int) : ∀ (n : Nat) (s : Int), sumTo (fun i => if i = s then w else 0) n = if 0 ≤ s ∧ s < n then w * s else 0
  | 0, s => by rw [if_neg (by omega)]; rfl
  | n + 1, s => by
    show sumTo (fun i => if i = s then w else 0) n + (if (n : Int) = s then w else 0) * n = _
    rw [sumTo_one w n s]
    by_cases e : (n : Int) = s
    · rw [if_neg (by omega), if_pos e, if_pos (by omega), e, Int.zero_add]
    · rw [if_neg e, Int.zero_mul, Int.add_zero]
      by_cases e2 : 0 ≤ s ∧ s < n
      · rw [if_pos e2, if_pos (by omega)]
      · rw [if_neg e2, if_neg (by omega)]
theorem mean_sum : ∀ (n : Nat) (f : Int → Int) (w : Int), InvF f → f 46 + n ≤ 100000 → sumI (fun x => (bitR n f w x).2 * spotF f ((bitR n f w x).1 27)) (2 ^ n) = sumTo (brS n f w) 11
  | 0, f, w, h, _ => by
    show 0 + (bitR 0 f w 0).2 * spotF f ((bitR 0 f w 0).1 27) = _
    rw [bitR_0, show brS 0 f w = (fun i => if i = spotF f (f 27) then w else 0) from funext fun i => brS_0, sumTo_one]
    have := spotF_pl h.1 h.2.1
    rw [if_pos (by omega), Int.zero_add]
  | n + 1, f, w, h, hm => by
    rw [Nat.pow_succ, Nat.mul_comm, sumI_two, show brS (n + 1) f w = (fun i => brS n (passCap f 0) (w * (8 - f 45)) i + brS n (passCap f 1) (w * f 45) i) from funext fun i => brS_split h (by omega) n w i, sumTo_add]
    congr 1
    · rw [← mean_sum n (passCap f 0) (w * (8 - f 45)) (passCap_inv h (by omega) 0) (by have := (passCap_min f 0).1; omega)]
      exact sumI_congr _ (fun k _ => by rw [bitR_even, passCap_spot])
    · rw [← mean_sum n (passCap f 1) (w * f 45) (passCap_inv h (by omega) 1) (by have := (passCap_min f 1).1; omega)]
      exact sumI_congr _ (fun k _ => by rw [bitR_odd, passCap_spot])
theorem pow2_S {t : Int} (h : 0 ≤ t) (x : Int) : x / pow2 (t + 1) = x / pow2 t / 2 := by
  unfold pow2
  rw [show (t + 1).toNat = t.toNat + 1 by omega, Int.pow_succ, Int.ediv_ediv_of_nonneg (Int.le_of_lt (Int.pow_pos (by decide)))]
theorem pow2_rng8 {n : Int} (h : 0 ≤ n ∧ n ≤ 8) : 1 ≤ pow2 n ∧ pow2 n ≤ 256 ∧ pow2 n = ((2 ^ n.toNat : Nat) : Int) := by
  rcases (show n = 0 ∨ n = 1 ∨ n = 2 ∨ n = 3 ∨ n = 4 ∨ n = 5 ∨ n = 6 ∨ n = 7 ∨ n = 8 by omega) with rfl | rfl | rfl | rfl | rfl | rfl | rfl | rfl | rfl <;> decide
theorem pow2_div {x n : Int} (h0 : 0 ≤ x) (h1 : x ≤ 255) : 0 ≤ x / pow2 n ∧ x / pow2 n ≤ 255 := by
  have hp : 0 < pow2 n := Int.pow_pos (by decide)
  have a := Int.ediv_nonneg h0 (Int.le_of_lt hp)
  have b := Int.ediv_le_self (pow2 n) h0
  omega
theorem pow8_S {n : Int} (h : 0 ≤ n) : pow8 (n + 1) = pow8 n * 8 := by
  unfold pow8
  rw [show (n + 1).toNat = n.toNat + 1 by omega, Int.pow_succ]
theorem bitR_inv : ∀ (n : Nat) {f : Int → Int} (w x : Int), InvF f → f 46 + n ≤ 100000 → InvF (bitR n f w x).1 ∧ (bitR n f w x).1 47 = f 47
  | 0, f, w, x, h, _ => by rw [bitR_0]; exact ⟨h, rfl⟩
  | n + 1, f, w, x, h, hm => by
    rw [bitR_S]
    have q := bitR_inv n (w * (if x % 2 = 1 then f 45 else 8 - f 45)) (x / 2) (passCap_inv h (by omega) (x % 2)) (by have := (passCap_min f (x % 2)).1; omega)
    exact ⟨q.1, q.2.trans (passCap_47 f _)⟩
theorem bitR_rng (n : Nat) {f : Int → Int} {w x : Int} (h : InvF f) (hm : f 46 + n ≤ 100000) : 0 ≤ (bitR n f w x).1 27 ∧ (bitR n f w x).1 27 ≤ 21 := by
  have q := (bitR_inv n w x h hm).1
  have q1 := q.1
  have q2 := q.2.1
  omega
