/-! a page that a text makes can be -/
def OKp (f : Int → Int) (far : Int) : Prop := (3 ≤ f 47 ∧ f 47 ≤ 9) ∧ (-1 ≤ f 27 ∧ f 27 ≤ 8 ∧ f 27 ≤ far) ∧ (1 ≤ f 44 ∧ f 44 ≤ 4) ∧ (0 ≤ f 45 ∧ f 45 ≤ 7) ∧ f 46 = 0 ∧ (∀ i, 0 ≤ i → i < 9 → (1 ≤ f (3 * i) ∧ f (3 * i) ≤ 12) ∧ (0 ≤ f (3 * i + 1) ∧ f (3 * i + 1) ≤ 6) ∧ (0 ≤ f (3 * i + 2) ∧ f (3 * i + 2) ≤ 9)) ∧ (∀ s, (s = 0 ∨ s = 1) → (0 ≤ f (28 + 8 * s) ∧ f (28 + 8 * s) ≤ 12) ∧ (∀ j, 1 ≤ j → j < 5 → f (28 + 8 * s + j) = 0) ∧ (0 ≤ f (28 + 8 * s + 5) ∧ f (28 + 8 * s + 5) ≤ 5) ∧ (0 ≤ f (28 + 8 * s + 6) ∧ f (28 + 8 * s + 6) ≤ 4) ∧ (0 ≤ f (28 + 8 * s + 7) ∧ f (28 + 8 * s + 7) ≤ 12)) ∧ ∀ i, (i < 0 ∨ 48 ≤ i) → f i = 0
def OKx (x : PX) : Prop := ∀ g, x = .inr g → OKp (gpg g) (gfar g)
def setOK (k v : Int) : Prop := (k = 47 ∧ 3 ≤ v ∧ v ≤ 9) ∨ (k = 44 ∧ 1 ≤ v ∧ v ≤ 4) ∨ (k = 45 ∧ 0 ≤ v ∧ v ≤ 7) ∨ (∃ i, 0 ≤ i ∧ i < 9 ∧ ((k = 3 * i ∧ 1 ≤ v ∧ v ≤ 12) ∨ (k = 3 * i + 1 ∧ 0 ≤ v ∧ v ≤ 6) ∨ (k = 3 * i + 2 ∧ 0 ≤ v ∧ v ≤ 9))) ∨ (∃ s, (s = 0 ∨ s = 1) ∧ ((k = 28 + 8 * s ∧ 0 ≤ v ∧ v ≤ 12) ∨ (k = 28 + 8 * s + 5 ∧ 0 ≤ v ∧ v ≤ 5) ∨ (k = 28 + 8 * s + 6 ∧ 0 ≤ v ∧ v ≤ 4) ∨ (k = 28 + 8 * s + 7 ∧ 0 ≤ v ∧ v ≤ 12)))
theorem OKp.set {f : Int → Int} {far k v : Int} (h : OKp f far) (hs : setOK k v) : OKp (setF f k v) far := by
  have rd : ∀ j, setF f k v j = if j = k then v else f j := fun _ => rfl
  obtain ⟨h47, h27, h44, h45, h46, hc, hsd, ho⟩ := h
  have hk : 0 ≤ k ∧ k < 48 ∧ k ≠ 27 ∧ k ≠ 46 := by
    rcases hs with q | q | q | ⟨i, q⟩ | ⟨s, q⟩ <;> omega
  refine ⟨?_, ?_, ?_, ?_, ?_, fun i i0 i1 => ?_, fun s hs2 => ?_, fun i hi => ?_⟩
  · rw [rd]; split
    · rcases hs with q | q | q | ⟨i, q⟩ | ⟨s, q⟩ <;> omega
    · exact h47
  · rw [rd, if_neg (by omega)]; exact h27
  · rw [rd]; split
    · rcases hs with q | q | q | ⟨i, q⟩ | ⟨s, q⟩ <;> omega
    · exact h44
  · rw [rd]; split
    · rcases hs with q | q | q | ⟨i, q⟩ | ⟨s, q⟩ <;> omega
    · exact h45
  · rw [rd, if_neg (by omega)]; exact h46
  · have hci := hc i i0 i1
    rw [rd, rd, rd]
    refine ⟨?_, ?_, ?_⟩
    all_goals
      split
      · rcases hs with q | q | q | ⟨i, q⟩ | ⟨s, q⟩ <;> omega
      · omega
  · have hsi := hsd s hs2
    refine ⟨?_, fun j j0 j1 => ?_, ?_, ?_, ?_⟩
    · rw [rd]; split
      · rcases hs with q | q | q | ⟨i, q⟩ | ⟨s', q⟩ <;> omega
      · exact hsi.1
    · rw [rd, if_neg (by rcases hs with q | q | q | ⟨i, q⟩ | ⟨s', q⟩ <;> omega)]; exact hsi.2.1 j j0 j1
    · rw [rd]; split
      · rcases hs with q | q | q | ⟨i, q⟩ | ⟨s', q⟩ <;> omega
      · exact hsi.2.2.1
    · rw [rd]; split
      · rcases hs with q | q | q | ⟨i, q⟩ | ⟨s', q⟩ <;> omega
      · exact hsi.2.2.2.1
    · rw [rd]; split
      · rcases hs with q | q | q | ⟨i, q⟩ | ⟨s', q⟩ <;> omega
      · exact hsi.2.2.2.2
  · rw [rd, if_neg (by omega)]; exact ho i hi
theorem OKp.far {f : Int → Int} {a b : Int} (h : OKp f a) (hab : a ≤ b) : OKp f b := ⟨h.1, ⟨h.2.1.1, h.2.1.2.1, by have := h.2.1.2.2; omega⟩, h.2.2⟩
theorem OKp.keg {f : Int → Int} {far v : Int} (h : OKp f far) (hv : 0 ≤ v ∧ v ≤ 8) (hf : v ≤ far) : OKp (setF f 27 v) far := by
  have rd : ∀ j, j ≠ 27 → setF f 27 v j = f j := fun j hj => if_neg hj
  obtain ⟨h47, h27, h44, h45, h46, hc, hsd, ho⟩ := h
  refine ⟨by rw [rd _ (by decide)]; exact h47, by show -1 ≤ v ∧ v ≤ 8 ∧ v ≤ far; omega, by rw [rd _ (by decide)]; exact h44, by rw [rd _ (by decide)]; exact h45, by rw [rd _ (by decide)]; exact h46, fun i i0 i1 => ?_, fun s hs => ?_, fun i hi => by rw [rd _ (by omega)]; exact ho i hi⟩
  · rw [rd _ (by omega), rd _ (by omega), rd _ (by omega)]; exact hc i i0 i1
  · rw [rd _ (by omega), rd _ (by omega), rd _ (by omega), rd _ (by omega)]
    exact ⟨(hsd s hs).1, fun j j0 j1 => by rw [rd _ (by omega)]; exact (hsd s hs).2.1 j j0 j1, (hsd s hs).2.2⟩
section OK
variable (t : Int → Int) (len : Int)
theorem ok_next {x : PX} (h : OKx x) : OKx (nextX t len x) := by
  intro g' e
  cases x with
  | inl a => cases e
  | inr g =>
    have e : (if tokK t len (gpos g) = 4 then (.inl (1, tokS t len (gpos g)) : PX) else .inr (tokN t len (gpos g), gpos g, gfar g, gsn g, gpg g)) = .inr g' := e
    split at e
    · cases e
    · cases e; exact h g rfl
theorem ok_chk {lo up : Int} {x : PX} (h : OKx x) : OKx (chkX t len lo up x) := by
  intro g' e
  cases x with
  | inl a => cases e
  | inr g =>
    have e : (if tokK t len (glp g) = 2 then (if tokV t len (glp g) < lo ∨ up < tokV t len (glp g) then (.inl (3, tokS t len (glp g)) : PX) else .inr g) else .inl (2, tokS t len (glp g))) = .inr g' := e
    split at e
    · split at e
      · cases e
      · cases e; exact h g' rfl
    · cases e
theorem ok_num {lo up : Int} {x : PX} (h : OKx x) : OKx (numX t len lo up x) := ok_chk t len (ok_next t len h)
theorem ok_mark {l b : Int} {x : PX} (h : OKx x) : OKx (markX t len l b x) := by
  intro g' e
  cases x with
  | inl a => cases e
  | inr g =>
    have e : (if gsn g l b = true then (.inl (4, tokS t len (glp g)) : PX) else .inr (gpos g, glp g, gfar g, (fun l' b' => gsn g l' b' || (decide (l' = l) && decide (b' = b))), gpg g)) = .inr g' := e
    split at e
    · cases e
    · cases e; exact h g rfl
theorem ok_ref {f : Int} {x : PX} : OKx (refX t len f x) := by
  intro g' e
  obtain ⟨a, ha⟩ := refX_inl (t := t) (len := len) (f := f) x
  rw [ha] at e; cases e
theorem ok_far {i : Int} {x : PX} (h : OKx x) : OKx (farX i x) := by
  intro g' e
  cases x with
  | inl a => cases e
  | inr g => cases e; exact (h g rfl).far (Int.le_max_left _ _)
theorem ok_set {k v : Int} {x : PX} (h : OKx x) (hs : setOK k v) : OKx (setX k v x) := by
  intro g' e
  cases x with
  | inl a => cases e
  | inr g => cases e; exact (h g rfl).set hs
theorem ok_kd {k : Int} {x : PX} (h : OKx x) (hk : ∀ v, 0 ≤ v → v ≤ 4 → setOK k v) : OKx (kdX t len k x) := by
  have e : kdX t len k x = if wordX t len 1 x < 0 then refX t len 2 x else setX k (wordX t len 1 x) x := rfl
  rw [e]
  split
  · exact ok_ref t len
  · rename_i c
    refine ok_set h (hk _ (by omega) ?_)
    cases x with
    | inl a => show (-1 : Int) ≤ 4; decide
    | inr g => exact wordF_rng1.2
theorem ok_body {x : PX} (h : OKx x) : OKx (bodyX t len x) := by
  have nr := fun (lo up : Int) (q : lo ≤ up) (y : PX) => numV_rng t len q y
  have cell : ∀ (l c lo up : Int), (∀ i v, 0 ≤ i → i < 9 → lo ≤ v → v ≤ up → setOK (3 * i + c) v) → lo ≤ up → OKx (cellX t len l c lo up x) := by
    intro l c lo up hh hlu
    have r := nr 0 8 (by decide) x
    exact ok_set (ok_num t len (ok_mark t len (ok_far (ok_num t len h)))) (hh _ _ r.1 (by omega) (nr lo up hlu _).1 (nr lo up hlu _).2)
  have r01 := nr 0 1 (by decide) x
  unfold bodyX
  simp only
  split
  · exact ok_set (ok_num t len (ok_mark t len h)) (Or.inl ⟨rfl, onlyV_rng t len 0 (by decide) x⟩)
  split
  · exact cell 1 0 1 12 (fun i v a b q w => Or.inr (Or.inr (Or.inr (Or.inl ⟨i, a, b, Or.inl ⟨by omega, q, w⟩⟩)))) (by decide)
  split
  · exact cell 2 1 0 6 (fun i v a b q w => Or.inr (Or.inr (Or.inr (Or.inl ⟨i, a, b, Or.inr (Or.inl ⟨rfl, q, w⟩)⟩)))) (by decide)
  split
  · exact cell 3 2 0 9 (fun i v a b q w => Or.inr (Or.inr (Or.inr (Or.inl ⟨i, a, b, Or.inr (Or.inr ⟨rfl, q, w⟩)⟩)))) (by decide)
  split
  · have rk := onlyV_rng t len 4 (lo := 0) (hi := 8) (by decide) x
    have hh : OKx (onlyX t len 4 0 8 x) := ok_num t len (ok_mark t len h)
    intro g' e
    cases q : onlyX t len 4 0 8 x with
    | inl a => rw [q] at e; cases e
    | inr g =>
      rw [q] at e
      cases e
      exact ((hh g q).far (Int.le_max_left _ _)).keg rk (Int.le_max_right _ _)
  split
  · have sd : ∀ (j lo up : Int) (y : PX), OKx y → (∀ v, lo ≤ v → v ≤ up → setOK (28 + 8 * numV t len 0 1 x + j) v) → lo ≤ up → OKx (setX (28 + 8 * numV t len 0 1 x + j) (numV t len lo up y) (numX t len lo up y)) := fun j lo up y hy hh hlu => ok_set (ok_num t len hy) (hh _ (nr lo up hlu _).1 (nr lo up hlu _).2)
    have mk : ∀ j v, ((j = 0 ∧ 0 ≤ v ∧ v ≤ 12) ∨ (j = 6 ∧ 0 ≤ v ∧ v ≤ 4) ∨ (j = 7 ∧ 0 ≤ v ∧ v ≤ 12)) → setOK (28 + 8 * numV t len 0 1 x + j) v := fun j v q => Or.inr (Or.inr (Or.inr (Or.inr ⟨numV t len 0 1 x, by omega, by omega⟩)))
    exact sd 7 0 12 _ (ok_kd t len (ok_next t len (sd 0 0 12 _ (ok_mark t len (ok_num t len h)) (fun v a b => mk 0 v (by omega)) (by decide))) (fun v a b => mk 6 v (by omega))) (fun v a b => mk 7 v (by omega)) (by decide)
  split
  · exact ok_set (ok_num t len (ok_mark t len (ok_num t len h))) (Or.inr (Or.inr (Or.inr (Or.inr ⟨numV t len 0 1 x, by omega, by have := nr 0 5 (by decide) (markX t len 6 (numV t len 0 1 x) (numX t len 0 1 x)); omega⟩))))
  split
  · exact ok_set (ok_num t len (ok_mark t len h)) (Or.inr (Or.inl ⟨rfl, onlyV_rng t len 7 (by decide) x⟩))
  split
  · exact ok_set (ok_num t len (ok_mark t len h)) (Or.inr (Or.inr (Or.inl ⟨rfl, onlyV_rng t len 8 (by decide) x⟩)))
  · exact ok_ref t len
theorem ok_step {x : PX} (h : OKx x) : OKx (stepX t len x) := by
  unfold stepX
  have e : ∀ b : PX, signX t len b = if kindX t len (nextX t len b) = 3 then nextX t len b else refX t len 2 (nextX t len b) := fun _ => rfl
  rw [e]
  split
  · exact ok_next t len (ok_body t len (ok_next t len h))
  · exact ok_ref t len
theorem ok_run : ∀ (k : Nat) (n : Int) (x : PX), OKx x → OKx (runX t len k n x).2
  | 0, n, x, h => by rw [runX]; exact h
  | k + 1, n, x, h => by
    rw [runX]
    have hn := ok_next t len h
    split
    · intro g e; cases e
    · rename_i g e
      split
      · intro g' e'; cases e'; rw [e] at hn; exact hn g rfl
      · have hs := ok_step t len h
        split
        · intro g e; cases e
        · rename_i g' e'
          rw [e'] at hs
          exact ok_run k (n + 1) _ hs
end OK
theorem st0_ok : OKx st0 := by
  intro g e
  cases e
  have rd : ∀ j, j ≠ 27 → setF clearF 27 (-1) j = clearF j := fun j hj => if_neg hj
  refine ⟨by decide, by decide, by decide, by decide, rfl, fun i i0 i1 => ?_, fun s hs => ?_, fun i hi => ?_⟩
  · show (1 ≤ setF clearF 27 (-1) (3 * i) ∧ setF clearF 27 (-1) (3 * i) ≤ 12) ∧ (0 ≤ setF clearF 27 (-1) (3 * i + 1) ∧ setF clearF 27 (-1) (3 * i + 1) ≤ 6) ∧ (0 ≤ setF clearF 27 (-1) (3 * i + 2) ∧ setF clearF 27 (-1) (3 * i + 2) ≤ 9)
    rcases (show i = 0 ∨ i = 1 ∨ i = 2 ∨ i = 3 ∨ i = 4 ∨ i = 5 ∨ i = 6 ∨ i = 7 ∨ i = 8 by omega) with rfl | rfl | rfl | rfl | rfl | rfl | rfl | rfl | rfl <;> decide
  · rcases hs with rfl | rfl
    · exact ⟨by decide, fun j a b => by rcases (show j = 1 ∨ j = 2 ∨ j = 3 ∨ j = 4 by omega) with rfl | rfl | rfl | rfl <;> rfl, by decide, by decide, by decide⟩
    · exact ⟨by decide, fun j a b => by rcases (show j = 1 ∨ j = 2 ∨ j = 3 ∨ j = 4 by omega) with rfl | rfl | rfl | rfl <;> rfl, by decide, by decide, by decide⟩
  · show setF clearF 27 (-1) i = 0
    rw [rd _ (by omega)]
    unfold clearF
    rw [if_neg (by omega), if_neg (by omega), if_neg (by omega), if_neg (by omega)]
/-- the page that a text without a fault makes -/
theorem text_page {t : Int → Int} {len : Int} {g : PSt} (h : closeX len (runX t len 320 0 st0).2 = .inr g) : InvF (gpg g) ∧ gpg g 46 = 0 := by
  have hok := ok_run t len 320 0 st0 st0_ok
  cases q : (runX t len 320 0 st0).2 with
  | inl a => rw [q] at h; cases h
  | inr g0 =>
    have h0 := hok g0 q
    rw [q] at h
    have h : (if gpg g0 47 ≤ gfar g0 then (.inl (5, len) : PX) else .inr (gpos g0, glp g0, gfar g0, gsn g0, setF (gpg g0) 27 (if gpg g0 27 = -1 then gpg g0 47 / 2 else gpg g0 27))) = .inr g := h
    split at h
    · cases h
    · rename_i hlt
      cases h
      obtain ⟨h47, h27, h44, h45, h46, hc, hsd, ho⟩ := h0
      have rd : ∀ j, j ≠ 27 → setF (gpg g0) 27 (if gpg g0 27 = -1 then gpg g0 47 / 2 else gpg g0 27) j = gpg g0 j := fun j hj => if_neg hj
      have r27 : setF (gpg g0) 27 (if gpg g0 27 = -1 then gpg g0 47 / 2 else gpg g0 27) 27 = if gpg g0 27 = -1 then gpg g0 47 / 2 else gpg g0 27 := if_pos rfl
      show InvF (setF (gpg g0) 27 (if gpg g0 27 = -1 then gpg g0 47 / 2 else gpg g0 27)) ∧ setF (gpg g0) 27 (if gpg g0 27 = -1 then gpg g0 47 / 2 else gpg g0 27) 46 = 0
      refine ⟨⟨by rw [rd _ (by decide)]; exact h47, ?_, by rw [rd _ (by decide)]; exact h44, by rw [rd _ (by decide)]; exact h45, by rw [rd _ (by decide), h46]; decide, fun i a b => by rw [rd _ (by omega)]; exact (hc i a b).1, fun i a b => by rw [rd _ (by omega)]; exact (hc i a b).2.1, fun i a b => by rw [rd _ (by omega)]; exact (hc i a b).2.2, ?_⟩, by rw [rd _ (by decide)]; exact h46⟩
      · rw [r27, rd _ (by decide)]
        left
        split <;> omega
      · have S : ∀ s : Int, (s = 0 ∨ s = 1) → InvS (sdF (setF (gpg g0) 27 (if gpg g0 27 = -1 then gpg g0 47 / 2 else gpg g0 27)) s) := by
          intro s hs
          have e : ∀ j : Int, 0 ≤ j → j < 8 → sdF (setF (gpg g0) 27 (if gpg g0 27 = -1 then gpg g0 47 / 2 else gpg g0 27)) s j = gpg g0 (28 + 8 * s + j) := by
            intro j a b
            unfold sdF
            rw [if_pos ⟨a, b⟩, rd _ (by omega)]
          obtain ⟨q0, q1, q5, q6, q7⟩ := hsd s hs
          have z1 := q1 1 (by decide) (by decide)
          have z2 := q1 2 (by decide) (by decide)
          have z3 := q1 3 (by decide) (by decide)
          have z4 := q1 4 (by decide) (by decide)
          unfold InvS
          rw [e 0 (by decide) (by decide), e 1 (by decide) (by decide), e 2 (by decide) (by decide), e 3 (by decide) (by decide), e 4 (by decide) (by decide), e 5 (by decide) (by decide), e 6 (by decide) (by decide), e 7 (by decide) (by decide), Int.add_zero]
          omega
        exact ⟨S 0 (Or.inl rfl), S 1 (Or.inr rfl)⟩
