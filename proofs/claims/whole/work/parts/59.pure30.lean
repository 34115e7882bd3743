section PK
variable (t : Int → Int) (len : Int)
def kX : PX → PX
  | .inr g => if tokK t len (glp g) = 2 then .inr g else .inl (2, tokS t len (glp g))
  | .inl a => .inl a
def vX (lo hi : Int) : PX → PX
  | .inr g => if tokV t len (glp g) < lo ∨ hi < tokV t len (glp g) then .inl (3, tokS t len (glp g)) else .inr g
  | .inl a => .inl a
def bX (sm : Int) : PX → PX
  | .inr g => if bitB sm (tokV t len (glp g)) = true then .inl (4, tokS t len (glp g)) else .inr g
  | .inl a => .inl a
theorem chkX_is (lo hi : Int) (y : PX) : chkX t len lo hi y = vX t len lo hi (kX t len y) := by
  cases y with
  | inl a => rfl
  | inr g =>
    show (if tokK t len (glp g) = 2 then _ else _) = vX t len lo hi (if tokK t len (glp g) = 2 then _ else _)
    by_cases e : tokK t len (glp g) = 2
    · rw [if_pos e, if_pos e]; rfl
    · rw [if_neg e, if_neg e]; rfl
theorem kX_ok {y : PX} {g : PSt} (h : kX t len y = .inr g) : tokK t len (glp g) = 2 := by
  cases y with
  | inl a => cases h
  | inr g' =>
    have h : (if tokK t len (glp g') = 2 then (.inr g' : PX) else .inl (2, tokS t len (glp g'))) = .inr g := h
    by_cases e : tokK t len (glp g') = 2
    · rw [if_pos e] at h; cases h; exact e
    · rw [if_neg e] at h; cases h
theorem vX_ok {lo hi : Int} {y : PX} {g : PSt} (h : vX t len lo hi y = .inr g) : y = .inr g ∧ lo ≤ tokV t len (glp g) ∧ tokV t len (glp g) ≤ hi := by
  cases y with
  | inl a => cases h
  | inr g' =>
    have h : (if tokV t len (glp g') < lo ∨ hi < tokV t len (glp g') then (.inl (3, tokS t len (glp g')) : PX) else .inr g') = .inr g := h
    by_cases e : tokV t len (glp g') < lo ∨ hi < tokV t len (glp g')
    · rw [if_pos e] at h; cases h
    · rw [if_neg e] at h; cases h; exact ⟨rfl, by omega, by omega⟩
theorem bX_ok {sm : Int} {y : PX} {g : PSt} (h : bX t len sm y = .inr g) : y = .inr g ∧ bitB sm (tokV t len (glp g)) = false := by
  cases y with
  | inl a => cases h
  | inr g' =>
    have h : (if bitB sm (tokV t len (glp g')) = true then (.inl (4, tokS t len (glp g')) : PX) else .inr g') = .inr g := h
    by_cases e : bitB sm (tokV t len (glp g')) = true
    · rw [if_pos e] at h; cases h
    · rw [if_neg e] at h; cases h; exact ⟨rfl, by simpa using e⟩
def othX (lo hi sm : Int) (y : PX) : PX := bX t len sm (vX t len lo hi (kX t len y))
theorem oth_0 (lo hi : Int) (y : PX) : othX t len lo hi 0 y = chkX t len lo hi y := by
  rw [chkX_is]
  unfold othX
  cases e : vX t len lo hi (kX t len y) with
  | inl a => rfl
  | inr g =>
    show (if bitB 0 (tokV t len (glp g)) = true then _ else _) = _
    rw [bitB_0, if_neg (by decide)]
end PK
theorem Sk.err {M0 M : Mem} {y y' : PX} (h : Sk M0 M y) (h0 : M 0 11 ≠ 0) (hy : ∀ a, y = .inl a → y' = y) : Sk M0 M y' := by
  obtain ⟨a, e⟩ := h.of1 h0
  rw [hy a e]; exact h
theorem Sk.k_ok {M0 M : Mem} {y : PX} (h : Sk M0 M y) (h2 : M 0 11 ≠ 0 ∨ M 0 15 = 2) : Sk M0 M (kX (M0 4) (M0 0 9) y) := by
  by_cases h0 : M 0 11 = 0
  · obtain ⟨g, rfl⟩ := h.of0 h0
    have e : tokK (M0 4) (M0 0 9) (glp g) = 2 := by rw [← h.2.2.2.1.2.2.2.1]; omega
    show Sk M0 M (if tokK (M0 4) (M0 0 9) (glp g) = 2 then _ else _)
    rw [if_pos e]; exact h
  · exact h.err h0 (fun a e => by rw [e]; rfl)
theorem Sk.k_no {M0 M MM : Mem} {y : PX} (h : Sk M0 M y) (h0 : M 0 11 = 0) (h2 : M 0 15 ≠ 2) (hf : failP M MM 2) : Sk M0 MM (kX (M0 4) (M0 0 9) y) := by
  obtain ⟨g, rfl⟩ := h.of0 h0
  have e : tokK (M0 4) (M0 0 9) (glp g) ≠ 2 := by rw [← h.2.2.2.1.2.2.2.1]; omega
  show Sk M0 MM (if tokK (M0 4) (M0 0 9) (glp g) = 2 then _ else _)
  rw [if_neg e]
  exact h.fail (by decide) hf
theorem Sk.val {M0 M : Mem} {y : PX} (h : Sk M0 M y) (h0 : M 0 11 = 0) (hk : ∀ g, y = .inr g → tokK (M0 4) (M0 0 9) (glp g) = 2) : ∃ g, y = .inr g ∧ M 0 16 = tokV (M0 4) (M0 0 9) (glp g) := by
  obtain ⟨g, e⟩ := h.of0 h0
  have k2 := hk g e
  rw [e] at h
  exact ⟨g, e, h.2.2.2.1.2.2.2.2.2.1 k2⟩
theorem Sk.v_ok {M0 M : Mem} {y : PX} {lo hi : Int} (h : Sk M0 M y) (hk : ∀ g, y = .inr g → tokK (M0 4) (M0 0 9) (glp g) = 2) (h2 : M 0 11 ≠ 0 ∨ (lo ≤ M 0 16 ∧ M 0 16 ≤ hi)) : Sk M0 M (vX (M0 4) (M0 0 9) lo hi y) := by
  by_cases h0 : M 0 11 = 0
  · obtain ⟨g, rfl, e⟩ := h.val h0 hk
    show Sk M0 M (if tokV (M0 4) (M0 0 9) (glp g) < lo ∨ hi < tokV (M0 4) (M0 0 9) (glp g) then _ else _)
    rw [if_neg (by omega)]; exact h
  · exact h.err h0 (fun a e => by rw [e]; rfl)
theorem Sk.v_no {M0 M MM : Mem} {y : PX} {lo hi : Int} (h : Sk M0 M y) (hk : ∀ g, y = .inr g → tokK (M0 4) (M0 0 9) (glp g) = 2) (h0 : M 0 11 = 0) (h2 : ¬ (lo ≤ M 0 16 ∧ M 0 16 ≤ hi)) (hf : failP M MM 3) : Sk M0 MM (vX (M0 4) (M0 0 9) lo hi y) := by
  obtain ⟨g, rfl, e⟩ := h.val h0 hk
  show Sk M0 MM (if tokV (M0 4) (M0 0 9) (glp g) < lo ∨ hi < tokV (M0 4) (M0 0 9) (glp g) then _ else _)
  rw [if_pos (by omega)]; exact h.fail (by decide) hf
theorem Sk.b_ok {M0 M : Mem} {y : PX} {sm : Int} (h : Sk M0 M y) (hk : ∀ g, y = .inr g → tokK (M0 4) (M0 0 9) (glp g) = 2) (h2 : M 0 11 ≠ 0 ∨ sm / pow2 (M 0 16) % 2 ≠ 1) : Sk M0 M (bX (M0 4) (M0 0 9) sm y) := by
  by_cases h0 : M 0 11 = 0
  · obtain ⟨g, rfl, e⟩ := h.val h0 hk
    show Sk M0 M (if bitB sm (tokV (M0 4) (M0 0 9) (glp g)) = true then _ else _)
    rw [if_neg]; exact h
    unfold bitB
    rw [decide_eq_true_iff, ← e]
    exact fun z => by rcases h2 with q | q; exact q h0; exact q z
  · exact h.err h0 (fun a e => by rw [e]; rfl)
theorem Sk.b_no {M0 M MM : Mem} {y : PX} {sm : Int} (h : Sk M0 M y) (hk : ∀ g, y = .inr g → tokK (M0 4) (M0 0 9) (glp g) = 2) (h0 : M 0 11 = 0) (h2 : sm / pow2 (M 0 16) % 2 = 1) (hf : failP M MM 4) : Sk M0 MM (bX (M0 4) (M0 0 9) sm y) := by
  obtain ⟨g, rfl, e⟩ := h.val h0 hk
  show Sk M0 MM (if bitB sm (tokV (M0 4) (M0 0 9) (glp g)) = true then _ else _)
  rw [if_pos]; exact h.fail (by decide) hf
  unfold bitB
  rw [decide_eq_true_iff, ← e]
  exact h2
theorem kX_k2 {t : Int → Int} {len : Int} {y : PX} : ∀ g, kX t len y = .inr g → tokK t len (glp g) = 2 := fun _ h => kX_ok t len h
theorem vX_k2 {t : Int → Int} {len lo hi : Int} {y : PX} : ∀ g, vX t len lo hi (kX t len y) = .inr g → tokK t len (glp g) = 2 := fun _ h => kX_ok t len (vX_ok t len h).1
theorem oth_val {M0 M : Mem} {y : PX} {lo hi sm : Int} (h : Sk M0 M (othX (M0 4) (M0 0 9) lo hi sm y)) : (M 0 11 = 0 → M 0 16 = valX (M0 4) (M0 0 9) lo (othX (M0 4) (M0 0 9) lo hi sm y)) ∧ (M 0 11 ≠ 0 → lo = valX (M0 4) (M0 0 9) lo (othX (M0 4) (M0 0 9) lo hi sm y)) := by
  constructor
  · intro h0
    obtain ⟨g, e, hv⟩ := h.val h0 (fun g e => vX_k2 g (bX_ok _ _ e).1)
    rw [e]; exact hv
  · intro h0
    obtain ⟨a, e⟩ := h.of1 h0
    rw [e]; rfl
theorem oth_rng {t : Int → Int} {len lo hi sm : Int} {y : PX} (h : lo ≤ hi) : lo ≤ valX t len lo (othX t len lo hi sm y) ∧ valX t len lo (othX t len lo hi sm y) ≤ hi := by
  cases e : othX t len lo hi sm y with
  | inl a => exact ⟨Int.le_refl _, h⟩
  | inr g => exact (vX_ok t len (bX_ok t len e).1).2
theorem RgA.frm {M0 M : Mem} (h : RgA M0 M) : (0 ≤ M 0 9 ∧ M 0 9 ≤ 320) ∧ (∀ i, 0 ≤ M 4 i ∧ M 4 i ≤ 255) ∧ (∀ i, 0 ≤ i → i < 15 → M 5 i = cutI i) ∧ (∀ i, 0 ≤ i → i < 64 → M 6 i = letT i) := by
  obtain ⟨e4, e9⟩ := h.t
  rw [e4, e9]
  refine ⟨h.2.2.2.2.2.2.1, h.2.2.2.2.2.2.2.1, fun i h1 h2 => ?_, fun i h1 h2 => ?_⟩
  · rw [h.1 5 i (by unfold Scell; omega)]; exact h.2.2.2.2.2.2.2.2.1 i h1 h2
  · rw [h.1 6 i (by unfold Scell; omega)]; exact h.2.2.2.2.2.2.2.2.2 i h1 h2
