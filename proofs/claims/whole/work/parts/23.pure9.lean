/-! what holds of the class's world between calls -/
def shI (M : Mem) (k : Nat) : Prop := (-1 ≤ M k 0 ∧ M k 0 ≤ 2) ∧ (0 ≤ M k 1 ∧ M k 1 ≤ 40) ∧ ∀ j, 0 ≤ j → j < 40 → in32 (M (k + 1) j)
def KI (M : Mem) : Prop := (InvF (fld M 1) ∧ fld M 1 46 ≤ 999) ∧ toldI M ∧ (0 ≤ M 0 9 ∧ M 0 9 ≤ 3) ∧ ((M 0 9 % 2 = 1 → InvF (fld M 210) ∧ fld M 210 46 ≤ 999 ∧ fld M 210 47 = fld M 1 47) ∧ (M 0 9 / 2 = 1 → InvF (fld M 218) ∧ fld M 218 46 ≤ 999 ∧ fld M 218 47 = fld M 1 47)) ∧ (shI M 227 ∧ shI M 229 ∧ shI M 231 ∧ shI M 233) ∧ (0 ≤ M 18 1 ∧ M 18 1 ≤ 320)
theorem KI.now {M : Mem} (h : KI M) : InvF (fld M 1) := h.1.1
theorem KI.min {M : Mem} (h : KI M) : fld M 1 46 ≤ 999 := h.1.2
theorem KI.told {M : Mem} (h : KI M) : toldI M := h.2.1
theorem KI.kept {M : Mem} (h : KI M) : 0 ≤ M 0 9 ∧ M 0 9 ≤ 3 := h.2.2.1
theorem KI.sh {M : Mem} (h : KI M) : shI M 227 ∧ shI M 229 ∧ shI M 231 ∧ shI M 233 := h.2.2.2.2.1
theorem KI.tape {M : Mem} (h : KI M) : 0 ≤ M 18 1 ∧ M 18 1 ≤ 320 := h.2.2.2.2.2
theorem b2 (M : Mem) (h : 0 ≤ M 0 9 ∧ M 0 9 ≤ 3) : band (M 0 9) 1 = M 0 9 % 2 := band_one h.1 (by omega)
theorem pow2_0 : pow2 0 = 1 := rfl
theorem pow2_1 : pow2 1 = 2 := rfl
theorem bor_kept {x : Int} (h : 0 ≤ x ∧ x ≤ 3) : (bor x 1 = if x % 2 = 1 then x else x + 1) ∧ bor x 2 = if x / 2 = 1 then x else x + 2 := by
  rcases (show x = 0 ∨ x = 1 ∨ x = 2 ∨ x = 3 by omega) with rfl | rfl | rfl | rfl <;> decide +kernel
def sdK (M : Mem) (s : Int) : Int → Int := if s = 0 then sd M 5 else sd M 7
def sdC (s : Int) : Nat := if s = 0 then 5 else 7
theorem sdK_0 (M : Mem) : sdK M 0 = sd M 5 := if_pos rfl
theorem sdK_1 (M : Mem) : sdK M 1 = sd M 7 := if_neg (by decide)
theorem sdC_0 : sdC 0 = 5 := if_pos rfl
theorem sdC_1 : sdC 1 = 7 := if_neg (by decide)
theorem sdK_F (M : Mem) {s : Int} (hs : s = 0 ∨ s = 1) : sdK M s = sdF (fld M 1) s := by
  rcases hs with rfl | rfl
  · rw [sdK_0, sdF_0]
  · rw [sdK_1, sdF_1]
theorem restS_rng {g : Int → Int} (h : InvS g) : 0 ≤ restS g ∧ restS g ≤ 12 := by
  obtain ⟨h0, h1, h2, h3, h4, h5, -⟩ := h
  unfold restS
  omega
theorem brS_rng : ∀ (n : Nat) (f : Int → Int) (w i : Int), 0 ≤ w → 0 ≤ f 45 → f 45 ≤ 8 → 0 ≤ brS n f w i ∧ brS n f w i ≤ w * 8 ^ n
  | 0, f, w, i, hw, _, _ => by
    rw [brS_0, Int.pow_zero, Int.mul_one]
    split <;> omega
  | n + 1, f, w, i, hw, h0, h1 => by
    have hp : (0 : Int) ≤ 8 ^ (n + 1) := Int.le_of_lt (Int.pow_pos (by decide))
    have hwp : 0 ≤ w * 8 ^ (n + 1) := Int.mul_nonneg hw hp
    by_cases hk : f 47 ≤ f 27
    · rw [brS_over hk]
      split <;> omega
    · rw [brS_on hk]
      have a := brS_rng n (passCap f 0) (w * (8 - f 45)) i (Int.mul_nonneg hw (by omega)) (by rw [passCap_45]; exact h0) (by rw [passCap_45]; exact h1)
      have b := brS_rng n (passCap f 1) (w * f 45) i (Int.mul_nonneg hw h0) (by rw [passCap_45]; exact h0) (by rw [passCap_45]; exact h1)
      have e : w * 8 ^ (n + 1) = w * (8 - f 45) * 8 ^ n + w * f 45 * 8 ^ n := by
        rw [← Int.add_mul, ← Int.mul_add, show 8 - f 45 + f 45 = 8 by omega, Int.pow_succ, Int.mul_comm (8 ^ n) 8, Int.mul_assoc]
      split
      · omega
      · have : 0 ≤ w * f 45 * 8 ^ n := by omega
        omega
theorem pow8_rng {n : Int} (h : 0 ≤ n ∧ n ≤ 8) : 0 < pow8 n ∧ pow8 n ≤ 16777216 := by
  rcases (show n = 0 ∨ n = 1 ∨ n = 2 ∨ n = 3 ∨ n = 4 ∨ n = 5 ∨ n = 6 ∨ n = 7 ∨ n = 8 by omega) with rfl | rfl | rfl | rfl | rfl | rfl | rfl | rfl | rfl <;> decide
theorem brS_top {f : Int → Int} (h : InvF f) {n : Int} (hn : 0 ≤ n ∧ n ≤ 8) (i : Int) : 0 ≤ brS n.toNat f 1 i ∧ brS n.toNat f 1 i ≤ 16777216 := by
  have h4 := h.2.2.2.1
  have a := brS_rng n.toNat f 1 i (by decide) h4.1 (by omega)
  have b := pow8_rng hn
  rw [Int.one_mul] at a
  exact ⟨a.1, Int.le_trans a.2 b.2⟩
theorem sumTo_congr {g g' : Int → Int} : ∀ n : Nat, (∀ i : Int, 0 ≤ i → i < n → g i = g' i) → sumTo g n = sumTo g' n
  | 0, _ => rfl
  | n + 1, h => by
    rw [sumTo, sumTo, sumTo_congr n (fun i h1 h2 => h i h1 (by omega)), h n (by omega) (by omega)]
theorem sumTo_rng {g : Int → Int} (h : ∀ i : Int, 0 ≤ g i ∧ g i ≤ 16777216) : 0 ≤ sumTo g 11 ∧ sumTo g 11 ≤ 1073741824 := by
  have h1 := h 1; have h2 := h 2; have h3 := h 3; have h4 := h 4; have h5 := h 5; have h6 := h 6; have h7 := h 7; have h8 := h 8; have h9 := h 9; have h10 := h 10
  have e : sumTo g 11 = 0 + g 0 * 0 + g 1 * 1 + g 2 * 2 + g 3 * 3 + g 4 * 4 + g 5 * 5 + g 6 * 6 + g 7 * 7 + g 8 * 8 + g 9 * 9 + g 10 * 10 := rfl
  omega
theorem setF_id (f : Int → Int) (i : Int) : setF f i (f i) = f := by
  funext j
  unfold setF
  split
  · rename_i h; rw [h]
  · rfl
theorem spotF_pl {f : Int → Int} (hc : 3 ≤ f 47 ∧ f 47 ≤ 9) {i : Int} (h : (0 ≤ i ∧ i < f 47) ∨ i = 20 ∨ i = 21) : 0 ≤ spotF f i ∧ spotF f i ≤ 10 := by
  unfold spotF
  split
  · omega
  · split <;> omega
theorem liesN_rng {f : Int → Int} {M : Mem} (h : toldI M) : 0 ≤ liesN f M ∧ liesN f M ≤ 255 := by
  unfold liesN
  have hl := bitsOf_lt (fun k => decide (M 209 k ≠ capN f (M 208 k).toNat 27)) (M 207 2).toNat
  have hp : 2 ^ (M 207 2).toNat ≤ 2 ^ 8 := Nat.pow_le_pow_right (by decide) (by have := h.1.2; omega)
  omega
def mayI (f : Int → Int) (M : Mem) : Nat → Bool := fun i => decide (liesN (setF f 27 (i : Int)) M = 0)
theorem sh_get {k : Int} (h : 0 ≤ k ∧ k < 4) : ([227, 229, 231, 233] : List Nat)[k.toNat]? = some (227 + 2 * k.toNat) := by
  rcases (show k = 0 ∨ k = 1 ∨ k = 2 ∨ k = 3 by omega) with rfl | rfl | rfl | rfl <;> rfl
theorem hat_k {k : Int} (h : 0 ≤ k ∧ k < 4) : HAt LyK (227 + 2 * k.toNat) := by
  rcases (show k = 0 ∨ k = 1 ∨ k = 2 ∨ k = 3 by omega) with rfl | rfl | rfl | rfl
  · exact hk_227
  · exact hk_229
  · exact hk_231
  · exact hk_233
theorem shI_k {M : Mem} (hK : shI M 227 ∧ shI M 229 ∧ shI M 231 ∧ shI M 233) {k : Int} (h : 0 ≤ k ∧ k < 4) : shI M (227 + 2 * k.toNat) := by
  rcases (show k = 0 ∨ k = 1 ∨ k = 2 ∨ k = 3 by omega) with rfl | rfl | rfl | rfl
  · exact hK.1
  · exact hK.2.1
  · exact hK.2.2.1
  · exact hK.2.2.2
/-- minutes read of a sheet: the answer, the fault, the page behind them -/
def readF (lane size : Int) (row : Int → Int) (as fr : Int) : Nat → Int → (Int → Int) → Int × Int × (Int → Int)
  | 0, w, f => (w, 0, f)
  | j + 1, w, f => if faultF lane size as (fr + 2 * w) 2 ≠ 0 then (w, faultF lane size as (fr + 2 * w) 2, f) else if refF f (row (fr + 2 * w)) (row (fr + 2 * w + 1)) ≠ 0 then (-20 - w, 0, f) else readF lane size row as fr j (w + 1) (passF f (row (fr + 2 * w)) (row (fr + 2 * w + 1)) 0)
theorem readF_0 {lane size as fr w : Int} {row f : Int → Int} : readF lane size row as fr 0 w f = (w, 0, f) := by rw [readF]
theorem readF_flt {lane size as fr w : Int} {row f : Int → Int} {j : Nat} (h : faultF lane size as (fr + 2 * w) 2 ≠ 0) : readF lane size row as fr (j + 1) w f = (w, faultF lane size as (fr + 2 * w) 2, f) := by rw [readF, if_pos h]
theorem readF_ref {lane size as fr w : Int} {row f : Int → Int} {j : Nat} (h : faultF lane size as (fr + 2 * w) 2 = 0) (h2 : refF f (row (fr + 2 * w)) (row (fr + 2 * w + 1)) ≠ 0) : readF lane size row as fr (j + 1) w f = (-20 - w, 0, f) := by rw [readF, if_neg (by rw [h]; decide), if_pos h2]
theorem readF_on {lane size as fr w : Int} {row f : Int → Int} {j : Nat} (h : faultF lane size as (fr + 2 * w) 2 = 0) (h2 : refF f (row (fr + 2 * w)) (row (fr + 2 * w + 1)) = 0) : readF lane size row as fr (j + 1) w f = readF lane size row as fr j (w + 1) (passF f (row (fr + 2 * w)) (row (fr + 2 * w + 1)) 0) := by rw [readF, if_neg (by rw [h]; decide), if_neg (by rw [h2]; decide)]
theorem refF_ok {f : Int → Int} {x y : Int} (h : refF f x y = 0) : (0 ≤ x ∧ x ≤ sdF f 0 0) ∧ (0 ≤ y ∧ y ≤ sdF f 1 0) ∧ f 27 < f 47 ∧ f 46 < 999 := by
  unfold refF at h
  split at h
  · omega
  · rename_i q
    have q := Classical.not_not.mp q
    split at h
    · omega
    · split at h
      · omega
      · exact ⟨q.1, q.2, by omega, by omega⟩
theorem faultF_rng (lane size as fr n : Int) : 0 ≤ faultF lane size as fr n ∧ faultF lane size as fr n ≤ 3 := by
  unfold faultF
  split
  · omega
  · split
    · omega
    · split <;> omega
theorem faultF_ok {lane size as fr n : Int} (h : faultF lane size as fr n = 0) : lane ≠ -1 ∧ lane = as ∧ 0 ≤ fr ∧ fr ≤ size - n := by
  unfold faultF at h
  split at h
  · omega
  · split at h
    · omega
    · split at h
      · omega
      · omega
theorem refF_rng (f : Int → Int) (x y : Int) : -3 ≤ refF f x y ∧ refF f x y ≤ 0 := by
  unfold refF
  split
  · omega
  · split
    · omega
    · split <;> omega
