theorem InvS_set {g : Int → Int} (h : InvS g) {jj v : Int} (hj : (jj = 0 ∧ 0 ≤ v ∧ v + g 1 + g 2 + g 3 + g 4 ≤ 12) ∨ (jj = 5 ∧ 0 ≤ v ∧ v ≤ 5) ∨ (jj = 6 ∧ 0 ≤ v ∧ v ≤ 4) ∨ (jj = 7 ∧ 0 ≤ v ∧ v ≤ 12)) : InvS (setF g jj v) := by
  obtain ⟨a0, a1, a2, a3, a4, a5, a6, a7, a8, a9, a10, a11⟩ := h
  unfold InvS setF
  rcases hj with ⟨rfl, q⟩ | ⟨rfl, q⟩ | ⟨rfl, q⟩ | ⟨rfl, q⟩ <;> simp <;> omega
theorem sdF_set {f : Int → Int} {s t jj v : Int} (hs : s = 0 ∨ s = 1) (ht : t = 0 ∨ t = 1) (hj : 0 ≤ jj ∧ jj < 8) : sdF (setF f (28 + 8 * s + jj) v) t = if t = s then setF (sdF f s) jj v else sdF f t := by
  funext j
  by_cases h : t = s
  · subst h
    rw [if_pos rfl]
    unfold sdF setF
    by_cases hq : 0 ≤ j ∧ j < 8
    · rw [if_pos hq]
      by_cases e : j = jj
      · rw [if_pos e, if_pos (by omega)]
      · rw [if_neg e, if_neg (by omega)]; exact (if_pos hq).symm
    · rw [if_neg hq, if_neg (by omega)]; exact (if_neg hq).symm
  · rw [if_neg h]
    unfold sdF setF
    by_cases hq : 0 ≤ j ∧ j < 8
    · rw [if_pos hq, if_pos hq, if_neg (by omega)]
    · rw [if_neg hq, if_neg hq]
theorem InvF_side {f : Int → Int} (h : InvF f) {s jj v : Int} (hs : s = 0 ∨ s = 1) (hj : (jj = 0 ∧ 0 ≤ v ∧ v + sdF f s 1 + sdF f s 2 + sdF f s 3 + sdF f s 4 ≤ 12) ∨ (jj = 5 ∧ 0 ≤ v ∧ v ≤ 5) ∨ (jj = 6 ∧ 0 ≤ v ∧ v ≤ 4) ∨ (jj = 7 ∧ 0 ≤ v ∧ v ≤ 12)) : InvF (setF f (28 + 8 * s + jj) v) := by
  have hr : 0 ≤ jj ∧ jj < 8 := by omega
  have k0 := sdF_set (f := f) (v := v) hs (t := 0) (Or.inl rfl) hr
  have k1 := sdF_set (f := f) (v := v) hs (t := 1) (Or.inr rfl) hr
  obtain ⟨h1, h2, h3, h4, h5, h6, h7, h8, h9, h10⟩ := h
  unfold InvF
  rw [setF_ne _ _ (show (47 : Int) ≠ _ by omega), setF_ne _ _ (show (27 : Int) ≠ _ by omega), setF_ne _ _ (show (44 : Int) ≠ _ by omega), setF_ne _ _ (show (45 : Int) ≠ _ by omega), setF_ne _ _ (show (46 : Int) ≠ _ by omega), k0, k1]
  refine ⟨h1, h2, h3, h4, h5, fun i q1 q2 => by rw [setF_ne _ _ (by omega)]; exact h6 i q1 q2, fun i q1 q2 => by rw [setF_ne _ _ (by omega)]; exact h7 i q1 q2, fun i q1 q2 => by rw [setF_ne _ _ (by omega)]; exact h8 i q1 q2, ?_, ?_⟩
  · split
    · rename_i z; subst z; exact InvS_set h9 hj
    · exact h9
  · split
    · rename_i z; subst z; exact InvS_set h10 hj
    · exact h10
theorem sdF_off {f : Int → Int} {i v : Int} (h : i < 28 ∨ 44 ≤ i) {t : Int} (ht : t = 0 ∨ t = 1) : sdF (setF f i v) t = sdF f t := by
  funext j
  unfold sdF setF
  by_cases hq : 0 ≤ j ∧ j < 8
  · rw [if_pos hq, if_pos hq, if_neg (by omega)]
  · rw [if_neg hq, if_neg hq]
theorem InvF_cell {f : Int → Int} (h : InvF f) {i c v : Int} (hi : 0 ≤ i ∧ i < 9) (hc : (c = 0 ∧ 1 ≤ v ∧ v ≤ 12) ∨ (c = 1 ∧ 0 ≤ v ∧ v ≤ 6) ∨ (c = 2 ∧ 0 ≤ v ∧ v ≤ 9)) : InvF (setF f (3 * i + c) v) := by
  have k0 := sdF_off (f := f) (i := 3 * i + c) (v := v) (by omega) (t := 0) (Or.inl rfl)
  have k1 := sdF_off (f := f) (i := 3 * i + c) (v := v) (by omega) (t := 1) (Or.inr rfl)
  obtain ⟨h1, h2, h3, h4, h5, h6, h7, h8, h9, h10⟩ := h
  unfold InvF
  rw [setF_ne _ _ (show (47 : Int) ≠ _ by omega), setF_ne _ _ (show (27 : Int) ≠ _ by omega), setF_ne _ _ (show (44 : Int) ≠ _ by omega), setF_ne _ _ (show (45 : Int) ≠ _ by omega), setF_ne _ _ (show (46 : Int) ≠ _ by omega), k0, k1]
  refine ⟨h1, h2, h3, h4, h5, fun k q1 q2 => ?_, fun k q1 q2 => ?_, fun k q1 q2 => ?_, h9, h10⟩
  · unfold setF; split
    · omega
    · exact h6 k q1 q2
  · unfold setF; split
    · omega
    · exact h7 k q1 q2
  · unfold setF; split
    · omega
    · exact h8 k q1 q2
theorem InvF_own {f : Int → Int} (h : InvF f) {jj v : Int} (hj : (jj = 27 ∧ ((0 ≤ v ∧ v < f 47) ∨ v = 20 ∨ v = 21)) ∨ (jj = 44 ∧ 1 ≤ v ∧ v ≤ 4) ∨ (jj = 45 ∧ 0 ≤ v ∧ v ≤ 7)) : InvF (setF f jj v) := by
  have k0 := sdF_off (f := f) (i := jj) (v := v) (by omega) (t := 0) (Or.inl rfl)
  have k1 := sdF_off (f := f) (i := jj) (v := v) (by omega) (t := 1) (Or.inr rfl)
  obtain ⟨h1, h2, h3, h4, h5, h6, h7, h8, h9, h10⟩ := h
  unfold InvF
  rw [k0, k1]
  refine ⟨?_, ?_, ?_, ?_, ?_, fun k q1 q2 => ?_, fun k q1 q2 => ?_, fun k q1 q2 => ?_, h9, h10⟩
  · rw [setF_ne _ _ (by omega)]; exact h1
  · rw [setF_ne (j := 47) _ _ (by omega)]; unfold setF; split <;> omega
  · unfold setF; split <;> omega
  · unfold setF; split <;> omega
  · rw [setF_ne _ _ (by omega)]; exact h5
  · rw [setF_ne _ _ (by omega)]; exact h6 k q1 q2
  · rw [setF_ne _ _ (by omega)]; exact h7 k q1 q2
  · rw [setF_ne _ _ (by omega)]; exact h8 k q1 q2
def kindsF (f : Int → Int) (x y : Int) : Int → Int := setF (setF f 34 x) 42 y
theorem kindsF_inv {f : Int → Int} (h : InvF f) {x y : Int} (hx : 0 ≤ x ∧ x ≤ 4) (hy : 0 ≤ y ∧ y ≤ 4) : InvF (kindsF f x y) := by
  have h1 := InvF_side h (s := 0) (jj := 6) (v := x) (Or.inl rfl) (by omega)
  exact InvF_side h1 (s := 1) (jj := 6) (v := y) (Or.inr rfl) (by omega)
theorem kindsF_46 (f : Int → Int) (x y : Int) : kindsF f x y 46 = f 46 := rfl
/-- a steady captain of a side, sending so many -/
def tryF (f : Int → Int) (s v : Int) : Int → Int := setF (setF f (28 + 8 * s + 6) 2) (28 + 8 * s + 7) v
theorem tryF_inv {f : Int → Int} (h : InvF f) {s v : Int} (hs : s = 0 ∨ s = 1) (hv : 0 ≤ v ∧ v ≤ 12) : InvF (tryF f s v) := by
  have h1 := InvF_side h (s := s) (jj := 6) (v := 2) hs (by omega)
  exact InvF_side h1 (s := s) (jj := 7) (v := v) hs (by omega)
theorem tryF_46 (f : Int → Int) {s v : Int} (hs : s = 0 ∨ s = 1) : tryF f s v 46 = f 46 := by
  unfold tryF
  rw [setF_ne _ _ (by omega), setF_ne _ _ (by omega)]
def beyondF (f : Int → Int) (s i : Int) : Prop := (if s = 0 then i + 1 else f 47 - i) < distF f s
def holdsF (f : Int → Int) (s i n : Int) : Prop := ∀ k : Nat, k < n.toNat → ¬ beyondF (capN f (k + 1)) s i
def LeastF (f : Int → Int) (s i n a : Int) : Prop := (0 ≤ a ∧ a ≤ 12 ∧ holdsF (tryF f s a) s i n ∧ ∀ v, 0 ≤ v → v < a → ¬ holdsF (tryF f s v) s i n) ∨ (a = -4 ∧ ∀ v, 0 ≤ v → v ≤ 12 → ¬ holdsF (tryF f s v) s i n)
theorem LeastF.one {f : Int → Int} {s i n a b : Int} (ha : LeastF f s i n a) (hb : LeastF f s i n b) : a = b := by
  rcases ha with ⟨a1, a2, a3, a4⟩ | ⟨a1, a2⟩ <;> rcases hb with ⟨b1, b2, b3, b4⟩ | ⟨b1, b2⟩
  · rcases Int.lt_trichotomy a b with q | q | q
    · exact absurd a3 (b4 a a1 q)
    · exact q
    · exact absurd b3 (a4 b b1 q)
  · exact absurd a3 (b2 a a1 a2)
  · exact absurd b3 (a2 b b1 b2)
  · omega
/-- in which minute it is over first -/
def OverF (f : Int → Int) (a : Int) : Prop := (0 ≤ a ∧ a ≤ 60 ∧ overF (capN f a.toNat) ∧ ∀ k : Nat, (k : Int) < a → ¬ overF (capN f k)) ∨ (a = -4 ∧ ∀ k : Nat, k ≤ 60 → ¬ overF (capN f k))
theorem OverF.one {f : Int → Int} {a b : Int} (ha : OverF f a) (hb : OverF f b) : a = b := by
  rcases ha with ⟨a1, a2, a3, a4⟩ | ⟨a1, a2⟩ <;> rcases hb with ⟨b1, b2, b3, b4⟩ | ⟨b1, b2⟩
  · rcases Int.lt_trichotomy a b with q | q | q
    · exact absurd a3 (b4 a.toNat (by omega))
    · exact q
    · exact absurd b3 (a4 b.toNat (by omega))
  · exact absurd a3 (b2 a.toNat (by omega))
  · exact absurd b3 (a2 b.toNat (by omega))
  · omega
/-- games by a seed -/
def nextS (x : Int32) : Int32 := x * 1103515245 + iN 12345
def drawC (x : Int32) : Int := ((x.toUInt32 >>> ((iN 16).toUInt32 &&& Int32.toUInt32 31)).toInt32 &&& iN 32767).toInt
def outB (x : Int32) (b : Int) : Int := if (drawC x).tmod 8 < b then 1 else 0
def playP (f : Int → Int) (x : Int32) : Nat → Int → Int
  | 0 => f
  | n + 1 => if f 47 ≤ f 27 then f else playP (passCap f (outB (nextS x) (f 45))) (nextS x) n
def playC (f : Int → Int) (x : Int32) : Nat → Int
  | 0 => 0
  | n + 1 => if f 47 ≤ f 27 then 0 else playC (passCap f (outB (nextS x) (f 45))) (nextS x) n + 1
theorem drawC_rng (x : Int32) : 0 ≤ drawC x ∧ drawC x ≤ 32767 := by
  unfold drawC
  generalize (x.toUInt32 >>> ((iN 16).toUInt32 &&& Int32.toUInt32 31)).toInt32 = y
  have h : (y &&& iN 32767).toBitVec = y.toBitVec &&& 32767#32 := rfl
  have h1 : (y.toBitVec &&& 32767#32).toNat ≤ 32767 := by
    rw [BitVec.toNat_and]
    exact Nat.and_le_right
  have h2 : (y &&& iN 32767).toInt = ((y.toBitVec &&& 32767#32).toNat : Int) := by
    show (y &&& iN 32767).toBitVec.toInt = _
    rw [h, BitVec.toInt_eq_toNat_of_lt (by omega)]
  omega
