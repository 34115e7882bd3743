/-! names -/
def partR (t : Int → Int) (len st nx n : Int) : Prop := cutI (n + 1) - cutI n = nx - st ∧ ∀ k, 0 ≤ k → k < nx - st → byteF t len (st + k) = letT (cutI n + k)
noncomputable def firstN (t : Int → Int) (len st nx : Int) : Nat → Int → Int
  | 0, _ => -4
  | j + 1, n => @ite _ (partR t len st nx n) (Classical.propDecidable _) n (firstN t len st nx j (n + 1))
theorem firstN_hit {t : Int → Int} {len st nx n : Int} {j : Nat} (h : partR t len st nx n) : firstN t len st nx (j + 1) n = n := by rw [firstN]; exact if_pos h
theorem firstN_miss {t : Int → Int} {len st nx n : Int} {j : Nat} (h : ¬ partR t len st nx n) : firstN t len st nx (j + 1) n = firstN t len st nx j (n + 1) := by rw [firstN]; exact if_neg h
noncomputable def nameV (t : Int → Int) (len st nx k : Int) : Int := if k = 1 then firstN t len st nx 14 0 else -4
theorem cutI_all : ∀ n : Fin 14, (0 ≤ cutI n.val ∧ cutI n.val ≤ 64) ∧ (0 ≤ cutI (n.val + 1) ∧ cutI (n.val + 1) ≤ 64) ∧ cutI n.val < cutI (n.val + 1) := by decide +kernel
theorem cutI_rng {n : Int} (h : 0 ≤ n ∧ n < 14) : (0 ≤ cutI n ∧ cutI n ≤ 64) ∧ (0 ≤ cutI (n + 1) ∧ cutI (n + 1) ≤ 64) ∧ cutI n < cutI (n + 1) := by
  have := cutI_all ⟨n.toNat, by omega⟩
  rw [show ((n.toNat : Nat) : Int) = n by omega] at this
  exact this
theorem letT_rng (i : Int) : 0 ≤ letT i ∧ letT i ≤ 255 := by
  have hall : ∀ x ∈ letL, (0 : Int) ≤ x ∧ x ≤ 255 := by decide +kernel
  unfold letT
  rw [List.getD_eq_getElem?_getD]
  cases h : letL[i.toNat]? with
  | none => exact ⟨Int.le_refl 0, by decide⟩
  | some v => exact hall v (List.mem_of_getElem? h)
theorem firstN_cases {t : Int → Int} {len st nx : Int} : ∀ (j : Nat) (n : Int), (firstN t len st nx j n = -4 ∧ ∀ m, n ≤ m → m < n + j → ¬ partR t len st nx m) ∨ (n ≤ firstN t len st nx j n ∧ firstN t len st nx j n < n + j ∧ partR t len st nx (firstN t len st nx j n) ∧ ∀ m, n ≤ m → m < firstN t len st nx j n → ¬ partR t len st nx m)
  | 0, n => Or.inl ⟨by rw [firstN], fun m h1 h2 => by omega⟩
  | j + 1, n => by
    by_cases h : partR t len st nx n
    · rw [firstN_hit h]
      exact Or.inr ⟨Int.le_refl n, by omega, h, fun m h1 h2 => by omega⟩
    · rw [firstN_miss h]
      rcases firstN_cases j (n + 1) with ⟨a, b⟩ | ⟨a, b, c, d⟩
      · refine Or.inl ⟨a, fun m h1 h2 => ?_⟩
        by_cases e : m = n
        · rw [e]; exact h
        · exact b m (by omega) (by omega)
      · refine Or.inr ⟨by omega, by omega, c, fun m h1 h2 => ?_⟩
        by_cases e : m = n
        · rw [e]; exact h
        · exact d m (by omega) h2
/-- the reference's words are those of the two constants -/
theorem bnd_all : ∀ n : Fin 14, ∃ w : Int × Int, (bnds (if n.val < 9 then 0 else 1))[if n.val < 9 then n.val else n.val - 9]? = some w ∧ 0 ≤ w.1 ∧ w.2 ≤ lnS (if n.val < 9 then 0 else 1) ∧ w.2 - w.1 = cutI (n.val + 1) - cutI n.val ∧ ∀ k : Fin 8, (k.val : Int) < w.2 - w.1 → chS (if n.val < 9 then 0 else 1) (w.1 + k.val) = letT (cutI n.val + k.val) := by
  intro n
  have h : ∀ n : Fin 14, ((bnds (if n.val < 9 then 0 else 1))[if n.val < 9 then n.val else n.val - 9]?).isSome = true ∧ (∀ w ∈ (bnds (if n.val < 9 then 0 else 1))[if n.val < 9 then n.val else n.val - 9]?, 0 ≤ w.1 ∧ w.2 ≤ lnS (if n.val < 9 then 0 else 1) ∧ w.2 - w.1 = cutI (n.val + 1) - cutI n.val ∧ ∀ k : Fin 8, (k.val : Int) < w.2 - w.1 → chS (if n.val < 9 then 0 else 1) (w.1 + k.val) = letT (cutI n.val + k.val)) := by decide +kernel
  obtain ⟨h1, h2⟩ := h n
  obtain ⟨w, hw⟩ := Option.isSome_iff_exists.1 h1
  exact ⟨w, hw, h2 w hw⟩
theorem part_iff {t : Int → Int} {len st nx : Int} (n : Nat) (hn : n < 14) {w : Int × Int} (hw : (bnds (if n < 9 then 0 else 1))[if n < 9 then n else n - 9]? = some w) : partP t len st nx (if n < 9 then 0 else 1) w.1 w.2 ↔ partR t len st nx n := by
  obtain ⟨w', h1, h2, h3, h4, h5⟩ := bnd_all ⟨n, hn⟩
  simp only at h1 h2 h3 h4 h5
  rw [hw] at h1
  cases h1
  have h8 : w.2 - w.1 ≤ 8 := by
    have : ∀ n : Fin 14, cutI (n.val + 1) - cutI n.val ≤ 8 := by decide +kernel
    have := this ⟨n, hn⟩
    simp only at this
    omega
  unfold partP partR
  constructor
  · rintro ⟨a, b, c, d⟩
    refine ⟨by omega, fun k k0 k1 => ?_⟩
    have := d (w.1 + k) (by omega) (by omega)
    rw [show st + (w.1 + k) - w.1 = st + k by omega] at this
    rw [← this]
    have q := h5 ⟨k.toNat, by omega⟩ (by simp only; omega)
    simp only at q
    rw [show ((k.toNat : Nat) : Int) = k by omega] at q
    exact q
  · rintro ⟨a, b⟩
    refine ⟨by omega, h2, h3, fun j j0 j1 => ?_⟩
    have q := h5 ⟨(j - w.1).toNat, by omega⟩ (by simp only; omega)
    simp only at q
    rw [show (((j - w.1).toNat : Nat) : Int) = j - w.1 by omega, show w.1 + (j - w.1) = j by omega] at q
    rw [q, ← b (j - w.1) (by omega) (by omega), show st + (j - w.1) = st + j - w.1 by omega]
theorem firstW_spec {t : Int → Int} {len st nx : Int} {i : Nat} : ∀ (r : List (Int × Int)) (n : Int), (firstW t len st nx i n r = -1 ∧ ∀ (m : Nat) (w : Int × Int), r[m]? = some w → ¬ partP t len st nx i w.1 w.2) ∨ (∃ (m : Nat) (w : Int × Int), r[m]? = some w ∧ partP t len st nx i w.1 w.2 ∧ firstW t len st nx i n r = n + m ∧ ∀ (m' : Nat) (w' : Int × Int), m' < m → r[m']? = some w' → ¬ partP t len st nx i w'.1 w'.2)
  | [], n => Or.inl ⟨by rw [firstW], fun m w h => by simp at h⟩
  | (a, b) :: r, n => by
    by_cases h : partP t len st nx i a b
    · rw [firstW_hit h]
      exact Or.inr ⟨0, (a, b), rfl, h, by omega, fun m' w' hm => absurd hm (by omega)⟩
    · rw [firstW_miss h]
      rcases firstW_spec r (n + 1) with ⟨p, q⟩ | ⟨m, w, p, q, u, v⟩
      · refine Or.inl ⟨p, fun m w hm => ?_⟩
        cases m with
        | zero => cases hm; exact h
        | succ m => exact q m w hm
      · refine Or.inr ⟨m + 1, w, p, q, by rw [u]; omega, fun m' w' hm hw => ?_⟩
        cases m' with
        | zero => cases hw; exact h
        | succ m' => exact v m' w' (by omega) hw
theorem words_apart : ∀ (n : Fin 9) (m : Fin 5), (cutI (n.val + 1) - cutI n.val ≠ cutI (9 + m.val + 1) - cutI (9 + m.val)) ∨ ∃ k : Fin 8, (k.val : Int) < cutI (n.val + 1) - cutI n.val ∧ letT (cutI n.val + k.val) ≠ letT (cutI (9 + m.val) + k.val) := by decide +kernel
theorem name_word {t : Int → Int} {len st nx k : Int} : (wordF t len st nx k 0 = if 0 ≤ nameV t len st nx k ∧ nameV t len st nx k ≤ 8 then nameV t len st nx k else -1) ∧ (wordF t len st nx k 1 = if 9 ≤ nameV t len st nx k then nameV t len st nx k - 9 else -1) ∧ (nameV t len st nx k = -4 ∨ (0 ≤ nameV t len st nx k ∧ nameV t len st nx k ≤ 13)) := by
  unfold wordF nameV
  by_cases hk : k = 1
  · rw [if_pos hk, if_pos hk, if_pos hk]
    have l0 : ∀ m : Nat, m < 9 → ∃ w, (bnds 0)[m]? = some w ∧ (partP t len st nx 0 w.1 w.2 ↔ partR t len st nx m) := by
      intro m hm
      obtain ⟨w, hw, _⟩ := bnd_all ⟨m, by omega⟩
      simp only [if_pos hm] at hw
      have q := part_iff (t := t) (len := len) (st := st) (nx := nx) m (by omega) (w := w) (by simp only [if_pos hm]; exact hw)
      simp only [if_pos hm] at q
      exact ⟨w, hw, q⟩
    have l1 : ∀ m : Nat, m < 5 → ∃ w, (bnds 1)[m]? = some w ∧ (partP t len st nx 1 w.1 w.2 ↔ partR t len st nx ((9 + m : Nat) : Int)) := by
      intro m hm
      obtain ⟨w, hw, _⟩ := bnd_all ⟨9 + m, by omega⟩
      simp only [if_neg (show ¬ 9 + m < 9 by omega), show 9 + m - 9 = m by omega] at hw
      have q := part_iff (t := t) (len := len) (st := st) (nx := nx) (9 + m) (by omega) (w := w) (by simp only [if_neg (show ¬ 9 + m < 9 by omega), show 9 + m - 9 = m by omega]; exact hw)
      simp only [if_neg (show ¬ 9 + m < 9 by omega)] at q
      exact ⟨w, hw, q⟩
    have len0 : ∀ (m : Nat) (w : Int × Int), (bnds 0)[m]? = some w → m < 9 := fun m w h => by have := List.getElem?_eq_some_iff.1 h; obtain ⟨z, _⟩ := this; exact z
    have len1 : ∀ (m : Nat) (w : Int × Int), (bnds 1)[m]? = some w → m < 5 := fun m w h => by have := List.getElem?_eq_some_iff.1 h; obtain ⟨z, _⟩ := this; exact z
    have apart : ∀ (n : Nat) (m : Nat), n < 9 → m < 5 → partR t len st nx n → ¬ partR t len st nx ((9 + m : Nat) : Int) := by
      intro n m hn hm h1 h2
      rcases words_apart ⟨n, hn⟩ ⟨m, hm⟩ with q | ⟨kk, q1, q2⟩
      · simp only at q
        have e : ((9 + m : Nat) : Int) = 9 + (m : Int) := by omega
        rw [e] at h2
        exact q (h1.1.trans h2.1.symm)
      · simp only at q1 q2
        have e : ((9 + m : Nat) : Int) = 9 + (m : Int) := by omega
        rw [e] at h2
        exact q2 ((h1.2 kk.val (by omega) (by have := h1.1; omega)).symm.trans (h2.2 kk.val (by omega) (by have := h1.1; omega)))
    rcases firstN_cases (t := t) (len := len) (st := st) (nx := nx) 14 0 with ⟨a, b⟩ | ⟨a, b, c, d⟩
    · rw [a]
      refine ⟨?_, ?_, Or.inl rfl⟩
      · rw [if_neg (by omega)]
        rcases firstW_spec (t := t) (len := len) (st := st) (nx := nx) (i := 0) (bnds 0) 0 with ⟨p, _⟩ | ⟨m, w, p, q, _, _⟩
        · exact p
        · exfalso
          obtain ⟨w', e1, e2⟩ := l0 m (len0 m w p)
          rw [p] at e1; cases e1
          exact b m (by omega) (by have := len0 m w p; omega) (e2.1 q)
      · rw [if_neg (by omega)]
        rcases firstW_spec (t := t) (len := len) (st := st) (nx := nx) (i := 1) (bnds 1) 0 with ⟨p, _⟩ | ⟨m, w, p, q, _, _⟩
        · exact p
        · exfalso
          obtain ⟨w', e1, e2⟩ := l1 m (len1 m w p)
          rw [p] at e1; cases e1
          exact b ((9 + m : Nat) : Int) (by omega) (by have := len1 m w p; omega) (e2.1 q)
    · obtain ⟨z, hz⟩ : ∃ z, z = firstN t len st nx 14 0 := ⟨_, rfl⟩
      rw [← hz] at a b c d ⊢
      refine ⟨?_, ?_, Or.inr ⟨a, by omega⟩⟩
      · by_cases z9 : z ≤ 8
        · rw [if_pos ⟨a, z9⟩]
          rcases firstW_spec (t := t) (len := len) (st := st) (nx := nx) (i := 0) (bnds 0) 0 with ⟨p, q⟩ | ⟨m, w, p, q, u, v⟩
          · exfalso
            obtain ⟨w', e1, e2⟩ := l0 z.toNat (by omega)
            rw [show ((z.toNat : Nat) : Int) = z by omega] at e2
            exact q z.toNat w' e1 (e2.2 c)
          · obtain ⟨w', e1, e2⟩ := l0 m (len0 m w p)
            rw [p] at e1; cases e1
            have g1 := e2.1 q
            have g2 : ¬ (m : Int) < z := fun g => d m (by omega) g g1
            have g3 : ¬ z < (m : Int) := fun g => by
              obtain ⟨w'', f1, f2⟩ := l0 z.toNat (by omega)
              rw [show ((z.toNat : Nat) : Int) = z by omega] at f2
              exact v z.toNat w'' (by omega) f1 (f2.2 c)
            rw [u]; omega
        · rw [if_neg (by omega)]
          rcases firstW_spec (t := t) (len := len) (st := st) (nx := nx) (i := 0) (bnds 0) 0 with ⟨p, _⟩ | ⟨m, w, p, q, _, _⟩
          · exact p
          · exfalso
            obtain ⟨w', e1, e2⟩ := l0 m (len0 m w p)
            rw [p] at e1; cases e1
            exact d m (by omega) (by have := len0 m w p; omega) (e2.1 q)
      · by_cases z9 : 9 ≤ z
        · rw [if_pos z9]
          rcases firstW_spec (t := t) (len := len) (st := st) (nx := nx) (i := 1) (bnds 1) 0 with ⟨p, q⟩ | ⟨m, w, p, q, u, v⟩
          · exfalso
            obtain ⟨w', e1, e2⟩ := l1 (z - 9).toNat (by omega)
            rw [show ((9 + (z - 9).toNat : Nat) : Int) = z by omega] at e2
            exact q _ w' e1 (e2.2 c)
          · obtain ⟨w', e1, e2⟩ := l1 m (len1 m w p)
            rw [p] at e1; cases e1
            have g1 := e2.1 q
            have g2 : ¬ ((9 + m : Nat) : Int) < z := fun g => d _ (by omega) g g1
            have g3 : ¬ z < ((9 + m : Nat) : Int) := fun g => by
              obtain ⟨w'', f1, f2⟩ := l1 (z - 9).toNat (by omega)
              rw [show ((9 + (z - 9).toNat : Nat) : Int) = z by omega] at f2
              exact v _ w'' (by omega) f1 (f2.2 c)
            rw [u]; omega
        · rw [if_neg z9]
          rcases firstW_spec (t := t) (len := len) (st := st) (nx := nx) (i := 1) (bnds 1) 0 with ⟨p, _⟩ | ⟨m, w, p, q, _, _⟩
          · exact p
          · exfalso
            obtain ⟨w', e1, e2⟩ := l1 m (len1 m w p)
            rw [p] at e1; cases e1
            have c' : partR t len st nx ((z.toNat : Nat) : Int) := by rw [show ((z.toNat : Nat) : Int) = z by omega]; exact c
            exact apart z.toNat m (by omega) (len1 m w p) c' (e2.1 q)
  · rw [if_neg hk, if_neg hk, if_neg hk]
    exact ⟨by rw [if_neg (by omega)], by rw [if_neg (by omega)], Or.inl rfl⟩
