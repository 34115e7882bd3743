/-! the tape and its tokens -/
theorem band255 (x : Int32) : 0 ≤ (x &&& iN 255).toInt ∧ (x &&& iN 255).toInt ≤ 255 := by
  have h : (x &&& iN 255).toBitVec = x.toBitVec &&& 255#32 := rfl
  have h1 : (x.toBitVec &&& 255#32).toNat ≤ 255 := by
    rw [BitVec.toNat_and]
    exact Nat.and_le_right
  have h2 : (x &&& iN 255).toInt = ((x.toBitVec &&& 255#32).toNat : Int) := by
    show (x &&& iN 255).toBitVec.toInt = _
    rw [h, BitVec.toInt_eq_toNat_of_lt (by omega)]
  omega
theorem band_rng (a : Int) : 0 ≤ band a 255 ∧ band a 255 ≤ 255 := band255 (iN a)
/-- the byte at a place; -1 behind the last one -/
def byteF (t : Int → Int) (len i : Int) : Int := if 0 ≤ i ∧ i < len then t i else -1
def kindF (c : Int) : Int := if c < 0 then 0 else if 97 ≤ c ∧ c ≤ 122 then 1 else if 48 ≤ c ∧ c ≤ 57 then 2 else if c = 59 then 3 else 4
def scanF (q : Int → Bool) (t : Int → Int) (len : Int) : Nat → Int → Int
  | 0, i => i
  | k + 1, i => if i < len ∧ q (t i) = true then scanF q t len k (i + 1) else i
def isB (c : Int) : Bool := decide (c = 32)
def isK (k c : Int) : Bool := decide (kindF c = k)
theorem scanF_on {q : Int → Bool} {t : Int → Int} {len i : Int} (h : i < len) (hq : q (t i) = true) : scanF q t len (len - i).toNat i = scanF q t len (len - (i + 1)).toNat (i + 1) := by
  rw [show (len - i).toNat = (len - (i + 1)).toNat + 1 by omega, scanF, if_pos ⟨h, hq⟩]
theorem scanF_off {q : Int → Bool} {t : Int → Int} {len i : Int} {k : Nat} (h : ¬ (i < len ∧ q (t i) = true)) : scanF q t len k i = i := by
  cases k with
  | zero => rw [scanF]
  | succ k => rw [scanF, if_neg h]
theorem scanF_rng (q : Int → Bool) (t : Int → Int) (len : Int) : ∀ (k : Nat) (i : Int), i ≤ scanF q t len k i ∧ (i ≤ len → scanF q t len k i ≤ len)
  | 0, i => by rw [scanF]; omega
  | k + 1, i => by
    rw [scanF]
    split
    · rename_i h
      have := scanF_rng q t len k (i + 1)
      omega
    · omega
/-- where a token that is read from a place on starts, of what kind it is, its number, where it ends -/
def tokS (t : Int → Int) (len n : Int) : Int := scanF isB t len (len - n).toNat n
def tokK0 (t : Int → Int) (len n : Int) : Int := kindF (byteF t len (tokS t len n))
def tokN (t : Int → Int) (len n : Int) : Int := if tokK0 t len n = 1 then scanF (isK 1) t len (len - tokS t len n).toNat (tokS t len n) else if tokK0 t len n = 2 then scanF (isK 2) t len (len - tokS t len n).toNat (tokS t len n) else if tokK0 t len n = 0 then tokS t len n else tokS t len n + 1
def tokK (t : Int → Int) (len n : Int) : Int := if tokK0 t len n = 2 ∧ 2 < tokN t len n - tokS t len n then 4 else tokK0 t len n
def tokV (t : Int → Int) (len n : Int) : Int := if tokN t len n - tokS t len n = 1 then byteF t len (tokS t len n) - 48 else (byteF t len (tokS t len n) - 48) * 10 + byteF t len (tokS t len n + 1) - 48
/-- the number that digits make, from a place on -/
def digF (t : Int → Int) (len : Int) : Nat → Int → Int → Int
  | 0, _, v => v
  | k + 1, i, v => if i < len ∧ isK 2 (t i) = true then digF t len k (i + 1) (v * 10 + t i - 48) else v
theorem digF_on {t : Int → Int} {len i v : Int} (h : i < len) (hq : isK 2 (t i) = true) : digF t len (len - i).toNat i v = digF t len (len - (i + 1)).toNat (i + 1) (v * 10 + t i - 48) := by
  rw [show (len - i).toNat = (len - (i + 1)).toNat + 1 by omega, digF, if_pos ⟨h, hq⟩]
theorem digF_off {t : Int → Int} {len i v : Int} {k : Nat} (h : ¬ (i < len ∧ isK 2 (t i) = true)) : digF t len k i v = v := by
  cases k with
  | zero => rw [digF]
  | succ k => rw [digF, if_neg h]
def tb (M : Mem) : Int → Int := fun i => band (M 19 i) 255
theorem kindF_rng (c : Int) : 0 ≤ kindF c ∧ kindF c ≤ 4 := by
  unfold kindF
  repeat' split
  all_goals omega
theorem kindF_b {t : Int → Int} {len i : Int} (ht : ∀ i, 0 ≤ t i ∧ t i ≤ 255) (hi : 0 ≤ i) : kindF (byteF t len i) = 0 ↔ len ≤ i := by
  unfold byteF
  split
  · rename_i h
    have := ht i
    unfold kindF
    rw [if_neg (by omega)]
    constructor
    · intro z
      revert z
      repeat' split
      all_goals omega
    · omega
  · rename_i h
    constructor
    · omega
    · intro _; rfl
theorem byteF_rng (M : Mem) (len i : Int) : -1 ≤ byteF (tb M) len i ∧ byteF (tb M) len i ≤ 255 := by
  unfold byteF tb
  split
  · have := band_rng (M 19 i); omega
  · omega
theorem byteF_in {t : Int → Int} {len i : Int} (h : 0 ≤ i ∧ i < len) : byteF t len i = t i := if_pos h
theorem tokS_rng {t : Int → Int} {len n : Int} (h : n ≤ len) : n ≤ tokS t len n ∧ tokS t len n ≤ len := by
  have := scanF_rng isB t len (len - n).toNat n
  unfold tokS
  omega
theorem isK_iff {k c : Int} : isK k c = true ↔ kindF c = k := by unfold isK; rw [decide_eq_true_iff]
theorem isB_iff {c : Int} : isB c = true ↔ c = 32 := by unfold isB; rw [decide_eq_true_iff]
theorem tokK0_2 {t : Int → Int} {len n : Int} (h0 : 0 ≤ n) (hn : n ≤ len) (hk : tokK0 t len n = 2) : tokS t len n < len ∧ kindF (t (tokS t len n)) = 2 := by
  have hs := tokS_rng (t := t) hn
  unfold tokK0 byteF at hk
  split at hk
  · rename_i q; exact ⟨q.2, hk⟩
  · exact absurd hk (by decide)
/-- a number of one or two digits -/
theorem digF_tok {t : Int → Int} {len n : Int} (h0 : 0 ≤ n) (hn : n ≤ len) (hk : tokK t len n = 2) : digF t len (len - tokS t len n).toNat (tokS t len n) 0 = tokV t len n := by
  have hs := tokS_rng (t := t) hn
  have hk0 : tokK0 t len n = 2 := by
    unfold tokK at hk
    split at hk
    · omega
    · exact hk
  have hle : tokN t len n - tokS t len n ≤ 2 := by
    unfold tokK at hk
    split at hk
    · omega
    · rename_i q; omega
  have hN : tokN t len n = scanF (isK 2) t len (len - tokS t len n).toNat (tokS t len n) := by
    unfold tokN
    rw [if_neg (by omega), if_pos hk0]
  have h2 := tokK0_2 h0 hn hk0
  unfold tokV
  rw [hN] at hle ⊢
  generalize tokS t len n = s at *
  have q1 : isK 2 (t s) = true := isK_iff.mpr h2.2
  rw [byteF_in ⟨by omega, h2.1⟩, digF_on h2.1 q1]
  rw [scanF_on h2.1 q1] at hle ⊢
  by_cases h3 : s + 1 < len ∧ isK 2 (t (s + 1)) = true
  · rw [digF_on h3.1 h3.2]
    rw [scanF_on h3.1 h3.2] at hle ⊢
    have r := (scanF_rng (isK 2) t len (len - (s + 1 + 1)).toNat (s + 1 + 1)).1
    have e : scanF (isK 2) t len (len - (s + 1 + 1)).toNat (s + 1 + 1) = s + 1 + 1 := by omega
    rw [e, if_neg (by omega), byteF_in ⟨by omega, h3.1⟩]
    have h4 : ¬ (s + 1 + 1 < len ∧ isK 2 (t (s + 1 + 1)) = true) := fun z => by
      rw [scanF_on z.1 z.2] at e
      have := (scanF_rng (isK 2) t len (len - (s + 1 + 1 + 1)).toNat (s + 1 + 1 + 1)).1
      omega
    rw [digF_off h4]
    omega
  · rw [digF_off h3, scanF_off h3, if_pos (by omega)]
    omega
