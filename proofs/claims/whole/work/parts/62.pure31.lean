section PF2
variable (t : Int → Int) (len : Int)
def frX (l most : Int) (x : PX) : PX := if most = 8 then markX t len l (numV t len 0 8 x) (farX (numV t len 0 8 x) (numX t len 0 8 x)) else markX t len l (numV t len 0 1 x) (numX t len 0 1 x)
def cellG (c lo up zz : Int) (y : PX) : PX := setX (3 * zz + c) (numV t len lo up y) (numX t len lo up y)
def foolsG (zz : Int) (y : PX) : PX := setX (28 + 8 * zz + 5) (numV t len 0 5 y) (numX t len 0 5 y)
noncomputable def sideG (zz : Int) (y : PX) : PX :=
  let z := kdX t len (28 + 8 * zz + 6) (nextX t len (setX (28 + 8 * zz + 0) (numV t len 0 12 y) (numX t len 0 12 y)))
  setX (28 + 8 * zz + 7) (numV t len 0 12 z) (numX t len 0 12 z)
theorem num_inl (lo up : Int) (a : Int × Int) : numX t len lo up (.inl a) = .inl a := rfl
theorem cellG_is {c lo up zz : Int} {l : Int} {x : PX} (h : ∀ g, frX t len l 8 x = .inr g → zz = numV t len 0 8 x) : cellG t len c lo up zz (frX t len l 8 x) = cellX t len l c lo up x := by
  have e : cellX t len l c lo up x = cellG t len c lo up (numV t len 0 8 x) (frX t len l 8 x) := by
    unfold cellX cellG frX
    simp only [if_true]
  rw [e]
  cases q : frX t len l 8 x with
  | inl a => rfl
  | inr g => rw [h g q]
theorem foolsG_is {zz : Int} {l : Int} {x : PX} (h : ∀ g, frX t len l 1 x = .inr g → zz = numV t len 0 1 x) : foolsG t len zz (frX t len l 1 x) = foolsX t len l x := by
  have e : foolsX t len l x = foolsG t len (numV t len 0 1 x) (frX t len l 1 x) := by
    unfold foolsX foolsG frX
    simp only [show ¬ ((1 : Int) = 8) by decide, if_false]
  rw [e]
  cases q : frX t len l 1 x with
  | inl a => rfl
  | inr g => rw [h g q]
theorem sideG_inl {zz : Int} {a : Int × Int} : sideG t len zz (.inl a) = .inl a := by
  have w : wordX t len 1 (.inl a) = -1 := rfl
  have k : kdX t len (28 + 8 * zz + 6) (.inl a) = .inl a := by
    unfold kdX
    rw [w]
    rfl
  have hh : sideG t len zz (.inl a) = setX (28 + 8 * zz + 7) (numV t len 0 12 (kdX t len (28 + 8 * zz + 6) (.inl a))) (numX t len 0 12 (kdX t len (28 + 8 * zz + 6) (.inl a))) := rfl
  rw [hh, k]
  rfl
theorem sideG_is {zz : Int} {l : Int} {x : PX} (h : ∀ g, frX t len l 1 x = .inr g → zz = numV t len 0 1 x) : sideG t len zz (frX t len l 1 x) = sideX t len l x := by
  have e : sideX t len l x = sideG t len (numV t len 0 1 x) (frX t len l 1 x) := by
    unfold sideX sideG frX
    simp only [show ¬ ((1 : Int) = 8) by decide, if_false]
  rw [e]
  cases q : frX t len l 1 x with
  | inl a => rw [sideG_inl, sideG_inl]
  | inr g => rw [h g q]
end PF2
theorem Sk.data {M0 M1 M2 : Mem} {g : PSt} {far : Int} {sn : Int → Int → Bool} {pf : Int → Int} (h : Sk M0 M1 (nextX (M0 4) (M0 0 9) (.inr g))) (hA : RgA M0 M2) (hT : ∀ j, 11 ≤ j → j ≤ 16 → M2 0 j = M1 0 j) (hd : DdR M1 (gfar g) (gsn g) (gpg g) → DdR M2 far sn pf) : Sk M0 M2 (nextX (M0 4) (M0 0 9) (.inr (gpos g, glp g, far, sn, pf))) := by
  have hR : RgT M0 M2 := by unfold RgT; rw [hT 14 (by decide) (by decide), hT 13 (by decide) (by decide), hT 15 (by decide) (by decide), hT 16 (by decide) (by decide)]; exact h.2.1
  refine ⟨hA, hR, ?_⟩
  by_cases k4 : tokK (M0 4) (M0 0 9) (gpos g) = 4
  · rw [nextX_4 k4] at h
    have e : nextX (M0 4) (M0 0 9) (.inr (gpos g, glp g, far, sn, pf)) = .inl (1, tokS (M0 4) (M0 0 9) (gpos g)) := by
      show (if tokK (M0 4) (M0 0 9) (gpos g) = 4 then _ else _) = _
      rw [if_pos k4]
    rw [e]
    obtain ⟨b1, b2, b3, b4, b5, b6⟩ := h.2.2
    exact ⟨by rw [hT 11 (by decide) (by decide)]; exact b1, b2, b3, by rw [hT 12 (by decide) (by decide)]; exact b4, b5, b6⟩
  · rw [nextX_n k4] at h
    have e : nextX (M0 4) (M0 0 9) (.inr (gpos g, glp g, far, sn, pf)) = .inr (tokN (M0 4) (M0 0 9) (gpos g), gpos g, far, sn, pf) := by
      show (if tokK (M0 4) (M0 0 9) (gpos g) = 4 then _ else _) = _
      rw [if_neg k4]
    rw [e]
    obtain ⟨b0, ⟨c1, c2, c3, c4, c5, c6, c7, c8⟩, bd⟩ := h.2.2
    exact ⟨by rw [hT 11 (by decide) (by decide)]; exact b0, ⟨by rw [hT 13 (by decide) (by decide)]; exact c1, by rw [hT 14 (by decide) (by decide)]; exact c2, by rw [hT 13 (by decide) (by decide)]; exact c3, by rw [hT 15 (by decide) (by decide)]; exact c4, c5, by rw [hT 16 (by decide) (by decide)]; exact c6, c7, c8⟩, hd bd⟩
theorem Sk.inl {M0 M1 M2 : Mem} {a : Int × Int} (h : Sk M0 M1 (.inl a)) (hA : RgA M0 M2) (hT : ∀ j, 11 ≤ j → j ≤ 16 → M2 0 j = M1 0 j) : Sk M0 M2 (.inl a) := by
  obtain ⟨b1, b2, b3, b4, b5, b6⟩ := h.2.2
  exact ⟨hA, by unfold RgT; rw [hT 14 (by decide) (by decide), hT 13 (by decide) (by decide), hT 15 (by decide) (by decide), hT 16 (by decide) (by decide)]; exact h.2.1, by rw [hT 11 (by decide) (by decide)]; exact b1, b2, b3, by rw [hT 12 (by decide) (by decide)]; exact b4, b5, b6⟩
theorem Sk.datw {M0 M1 M2 : Mem} {g : PSt} {far : Int} {sn : Int → Int → Bool} {pf : Int → Int} (h : Sk M0 M1 (.inr g)) (hA : RgA M0 M2) (hT : ∀ j, 11 ≤ j → j ≤ 16 → M2 0 j = M1 0 j) (hd : DdR M1 (gfar g) (gsn g) (gpg g) → DdR M2 far sn pf) : Sk M0 M2 (.inr (gpos g, glp g, far, sn, pf)) := by
  obtain ⟨b0, ⟨c1, c2, c3, c4, c5, c6, c7, c8⟩, bd⟩ := h.2.2
  exact ⟨hA, by unfold RgT; rw [hT 14 (by decide) (by decide), hT 13 (by decide) (by decide), hT 15 (by decide) (by decide), hT 16 (by decide) (by decide)]; exact h.2.1, by rw [hT 11 (by decide) (by decide)]; exact b0, ⟨by rw [hT 13 (by decide) (by decide)]; exact c1, by rw [hT 14 (by decide) (by decide)]; exact c2, by rw [hT 13 (by decide) (by decide)]; exact c3, by rw [hT 15 (by decide) (by decide)]; exact c4, c5, by rw [hT 16 (by decide) (by decide)]; exact c6, c7, c8⟩, hd bd⟩
theorem RgA.page {M0 M : Mem} (h : RgA M0 M) (k v : Int) : RgA M0 (upd2 M 2 k v) := by
  obtain ⟨a, b, c, d, e, f, r⟩ := h
  refine ⟨fun q j hq => ?_, by rw [upd2_ne1 (by decide)]; exact b, by rw [upd2_ne1 (by decide)]; exact c, fun l h1 h2 => by rw [upd2_ne1 (by decide)]; exact d l h1 h2, by rw [upd2_ne1 (by decide)]; exact e, by rw [upd2_ne1 (by decide)]; exact f, r⟩
  rw [upd2_at, if_neg (fun z => hq (by unfold Scell; omega))]
  exact a q j hq
theorem rpg_page {M : Mem} {k v v' : Int} (hk : 0 ≤ k ∧ k < 47 ∧ k ≠ 27) (hv : pgV 0 v' k = v) : rpg (upd2 M 2 k v') = setF (rpg M) k v := by
  funext i
  unfold setF rpg
  rw [upd2_ne1 (by decide)]
  by_cases e : i = k
  · subst e; rw [if_pos rfl, if_neg (by omega), if_neg (by omega), upd2_eq, hv]
  · rw [if_neg e, upd2_ne2 e]
theorem DdR.page {M : Mem} {far : Int} {sn : Int → Int → Bool} {pf : Int → Int} {k v v' : Int} (h : DdR M far sn pf) (hk : 0 ≤ k ∧ k < 47 ∧ k ≠ 27) (hv : pgV 0 v' k = v) : DdR (upd2 M 2 k v') far sn (setF pf k v) := by
  obtain ⟨a, b, c, d⟩ := h
  exact ⟨by rw [upd2_ne1 (by decide)]; exact a, fun l hl => by rw [upd2_ne1 (by decide)]; exact b l hl, fun l q hl h1 h2 => by rw [upd2_ne1 (by decide)]; exact c l q hl h1 h2, by rw [rpg_page hk hv, d]⟩
theorem Sk.setp {M0 M : Mem} {z : PX} {k v v' : Int} (h : Sk M0 M (nextX (M0 4) (M0 0 9) z)) (hk : 0 ≤ k ∧ k < 47 ∧ k ≠ 27) (hv : pgV 0 v' k = v) : Sk M0 (upd2 M 2 k v') (nextX (M0 4) (M0 0 9) (setX k v z)) := by
  have hT : ∀ j, 11 ≤ j → j ≤ 16 → (upd2 M 2 k v') 0 j = M 0 j := fun j _ _ => by rw [upd2_ne1 (by decide)]
  cases z with
  | inl a => exact Sk.inl h (h.1.page k v') hT
  | inr g => exact Sk.data h (h.1.page k v') hT (fun d => d.page hk hv)
theorem Sk.setw {M0 M : Mem} {z : PX} {k v v' : Int} (h : Sk M0 M z) (hk : 0 ≤ k ∧ k < 47 ∧ k ≠ 27) (hv : ∀ g, z = .inr g → pgV 0 v' k = v) : Sk M0 (upd2 M 2 k v') (setX k v z) := by
  have hT : ∀ j, 11 ≤ j → j ≤ 16 → (upd2 M 2 k v') 0 j = M 0 j := fun j _ _ => by rw [upd2_ne1 (by decide)]
  cases z with
  | inl a => exact Sk.inl h (h.1.page k v') hT
  | inr g => exact Sk.datw h (h.1.page k v') hT (fun d => d.page hk (hv g rfl))
theorem RgA.own {M0 M : Mem} (h : RgA M0 M) {j v : Int} (hj : (j = 3 ∧ 3 ≤ v ∧ v ≤ 9) ∨ (j = 4 ∧ (v = -4 ∨ (0 ≤ v ∧ v ≤ 8))) ∨ (j = 5 ∧ 0 ≤ v ∧ v ≤ 511) ∨ (j = 7 ∧ -1 ≤ v ∧ v ≤ 8)) : RgA M0 (upd2 M 0 j v) := by
  obtain ⟨a, b, c, d, e, f, r⟩ := h
  refine ⟨fun q i hq => ?_, ?_, ?_, fun l h1 h2 => by rw [upd2_ne1 (by decide)]; exact d l h1 h2, ?_, ?_, r⟩
  · rw [upd2_at, if_neg (fun z => hq (by unfold Scell; omega))]; exact a q i hq
  all_goals (rw [upd2_at]; split <;> omega)
theorem RgA.told {M0 M : Mem} (h : RgA M0 M) {l v : Int} (hv : 0 ≤ v ∧ v ≤ 511) : RgA M0 (upd2 M 3 l v) := by
  obtain ⟨a, b, c, d, e, f, r⟩ := h
  refine ⟨fun q i hq => ?_, by rw [upd2_ne1 (by decide)]; exact b, by rw [upd2_ne1 (by decide)]; exact c, fun k h1 h2 => ?_, by rw [upd2_ne1 (by decide)]; exact e, by rw [upd2_ne1 (by decide)]; exact f, r⟩
  · rw [upd2_at, if_neg (fun z => hq (by unfold Scell; omega))]; exact a q i hq
  · rw [upd2_at]; split
    · exact hv
    · exact d k h1 h2
theorem Sk.setc {M0 M : Mem} {z : PX} {v : Int} (h : Sk M0 M (nextX (M0 4) (M0 0 9) z)) (hv : 3 ≤ v ∧ v ≤ 9) : Sk M0 (upd2 M 0 3 v) (nextX (M0 4) (M0 0 9) (setX 47 v z)) := by
  have hA := h.1.own (j := 3) (v := v) (by omega)
  have hT : ∀ j, 11 ≤ j → j ≤ 16 → (upd2 M 0 3 v) 0 j = M 0 j := fun j _ _ => by rw [upd2_ne2 (by omega)]
  cases z with
  | inl a => exact Sk.inl h hA hT
  | inr g =>
    refine Sk.data h hA hT (fun d => ⟨by rw [upd2_ne2 (by decide)]; exact d.1, fun l hl => by rw [upd2_ne2 (by decide)]; exact d.2.1 l hl, fun l q hl h1 h2 => by rw [upd2_ne1 (by decide)]; exact d.2.2.1 l q hl h1 h2, ?_⟩)
    rw [← d.2.2.2]
    funext i
    unfold setF rpg
    by_cases e : i = 47
    · subst e; rw [if_pos rfl, if_pos rfl, upd2_eq]
    · rw [if_neg e, if_neg e, if_neg e, upd2_ne2 (by decide), upd2_ne1 (by decide)]
theorem Sk.setk {M0 M : Mem} {z : PX} {v w : Int} (h : Sk M0 M (nextX (M0 4) (M0 0 9) z)) (hv : 0 ≤ v ∧ v ≤ 8) (hw : w = if M 0 7 < v then v else M 0 7) : Sk M0 (upd2 (upd2 M 0 4 v) 0 7 w) (nextX (M0 4) (M0 0 9) (setX 27 v (farX v z))) := by
  have h7 := h.1.2.1
  have hA := (h.1.own (j := 4) (v := v) (by omega)).own (j := 7) (v := w) (by rw [hw]; split <;> omega)
  have hT : ∀ j, 11 ≤ j → j ≤ 16 → (upd2 (upd2 M 0 4 v) 0 7 w) 0 j = M 0 j := fun j _ _ => by rw [upd2_ne2 (by omega), upd2_ne2 (by omega)]
  cases z with
  | inl a => exact Sk.inl h hA hT
  | inr g =>
    show Sk M0 _ (nextX (M0 4) (M0 0 9) (.inr (gpos g, glp g, max (gfar g) v, gsn g, setF (gpg g) 27 v)))
    refine Sk.data (g := g) h hA hT (fun d => ⟨?_, fun l hl => by rw [upd2_ne2 (by decide), upd2_ne2 (by decide)]; exact d.2.1 l hl, fun l q hl h1 h2 => by rw [upd2_ne1 (by decide), upd2_ne1 (by decide)]; exact d.2.2.1 l q hl h1 h2, ?_⟩)
    · rw [upd2_eq, hw]
      have := d.1
      left
      show (if M 0 7 < v then v else M 0 7) = max (gfar g) v
      split <;> omega
    · rw [← d.2.2.2]
      funext i
      unfold setF rpg
      by_cases e : i = 47
      · subst e; rw [if_pos rfl, if_neg (by decide), if_pos rfl, upd2_ne2 (by decide), upd2_ne2 (by decide)]
      · by_cases e2 : i = 27
        · subst e2; rw [if_neg e, if_pos rfl, if_pos rfl, upd2_ne2 (by decide), upd2_eq, if_neg (by omega)]
        · rw [if_neg e, if_neg e2, if_neg e2, if_neg e, if_neg e2, upd2_ne1 (by decide), upd2_ne1 (by decide)]
theorem Sk.fresh {M0 M M1 : Mem} {x : PX} {l most zz w : Int} (hl : l = 1 ∨ l = 2 ∨ l = 3 ∨ l = 5 ∨ l = 6) (hm : most = 8 ∨ most = 1) (hS : Sk M0 M (nextX (M0 4) (M0 0 9) x)) (h1 : Sk M0 M1 (nextX (M0 4) (M0 0 9) (othX (M0 4) (M0 0 9) 0 most (M 3 l) (nextX (M0 4) (M0 0 9) x)))) (hz : zz = valX (M0 4) (M0 0 9) 0 (othX (M0 4) (M0 0 9) 0 most (M 3 l) (nextX (M0 4) (M0 0 9) x))) (hw : w = if 1 < most ∧ M1 0 7 < zz then zz else M1 0 7) :
    Sk M0 (upd2 (upd2 M1 3 l (bor (M1 3 l) (pow2 zz))) 0 7 w) (nextX (M0 4) (M0 0 9) (frX (M0 4) (M0 0 9) l most x)) ∧ ∀ g, frX (M0 4) (M0 0 9) l most x = .inr g → zz = numV (M0 4) (M0 0 9) 0 most x := by
  have hzr := oth_rng (t := M0 4) (len := M0 0 9) (lo := 0) (hi := most) (sm := M 3 l) (y := nextX (M0 4) (M0 0 9) x) (by omega)
  rw [← hz] at hzr
  have hob := or_bit (h1.1.2.2.2.1 l (by omega) (by omega)) (b := zz) (by omega)
  have h7 := h1.1.2.1
  have hA := (h1.1.told (l := l) hob.1).own (j := 7) (v := w) (by rw [hw]; split <;> omega)
  have hT : ∀ j, 11 ≤ j → j ≤ 16 → (upd2 (upd2 M1 3 l (bor (M1 3 l) (pow2 zz))) 0 7 w) 0 j = M1 0 j := fun j _ _ => by rw [upd2_ne2 (by omega), upd2_ne1 (by decide)]
  have hnum : numX (M0 4) (M0 0 9) 0 most x = vX (M0 4) (M0 0 9) 0 most (kX (M0 4) (M0 0 9) (nextX (M0 4) (M0 0 9) x)) := chkX_is _ _ _ _ _
  have hfr : frX (M0 4) (M0 0 9) l most x = markX (M0 4) (M0 0 9) l (numV (M0 4) (M0 0 9) 0 most x) (if most = 8 then farX (numV (M0 4) (M0 0 9) 0 most x) (numX (M0 4) (M0 0 9) 0 most x) else numX (M0 4) (M0 0 9) 0 most x) := by
    unfold frX
    rcases hm with rfl | rfl
    · rw [if_pos rfl, if_pos rfl]
    · rw [if_neg (by decide), if_neg (by decide)]
  cases e : vX (M0 4) (M0 0 9) 0 most (kX (M0 4) (M0 0 9) (nextX (M0 4) (M0 0 9) x)) with
  | inl a =>
    have eo : othX (M0 4) (M0 0 9) 0 most (M 3 l) (nextX (M0 4) (M0 0 9) x) = .inl a := by unfold othX; rw [e]; rfl
    have ef : frX (M0 4) (M0 0 9) l most x = .inl a := by rw [hfr, hnum, e]; split <;> rfl
    rw [eo] at h1
    rw [ef]
    exact ⟨Sk.inl h1 hA hT, fun g h => by cases h⟩
  | inr g =>
    have ev := vX_ok _ _ e
    have ek := kX_ok _ _ ev.1
    have ey : nextX (M0 4) (M0 0 9) x = .inr g := by
      cases q : nextX (M0 4) (M0 0 9) x with
      | inl a => rw [q] at ev; exact absurd ev.1 (by intro z; cases z)
      | inr g' =>
        have ev1 := ev.1
        rw [q] at ev1
        have ev2 : (if tokK (M0 4) (M0 0 9) (glp g') = 2 then (.inr g' : PX) else .inl (2, tokS (M0 4) (M0 0 9) (glp g'))) = .inr g := ev1
        by_cases z : tokK (M0 4) (M0 0 9) (glp g') = 2
        · rw [if_pos z] at ev2; exact ev2
        · rw [if_neg z] at ev2; cases ev2
    have hi : numV (M0 4) (M0 0 9) 0 most x = tokV (M0 4) (M0 0 9) (glp g) := by unfold numV; rw [hnum, e]; rfl
    rw [ey] at hS
    have hbit := hS.2.2.2.2.2.2.1 l (tokV (M0 4) (M0 0 9) (glp g)) hl (by omega) (by omega)
    by_cases hb : bitB (M 3 l) (tokV (M0 4) (M0 0 9) (glp g)) = true
    · have eo : othX (M0 4) (M0 0 9) 0 most (M 3 l) (nextX (M0 4) (M0 0 9) x) = .inl (4, tokS (M0 4) (M0 0 9) (glp g)) := by
        unfold othX; rw [e]
        show (if bitB (M 3 l) (tokV (M0 4) (M0 0 9) (glp g)) = true then _ else _) = _
        rw [if_pos hb]
      have ef : frX (M0 4) (M0 0 9) l most x = .inl (4, tokS (M0 4) (M0 0 9) (glp g)) := by
        rw [hfr, hnum, e, hi]
        rw [hbit] at hb
        split
        · show (if gsn g l _ = true then _ else _) = _
          rw [if_pos hb]
        · show (if gsn g l _ = true then _ else _) = _
          rw [if_pos hb]
      rw [eo] at h1
      rw [ef]
      exact ⟨Sk.inl h1 hA hT, fun g h => by cases h⟩
    · have eo : othX (M0 4) (M0 0 9) 0 most (M 3 l) (nextX (M0 4) (M0 0 9) x) = .inr g := by
        unfold othX; rw [e]
        show (if bitB (M 3 l) (tokV (M0 4) (M0 0 9) (glp g)) = true then _ else _) = _
        rw [if_neg hb]
      rw [eo] at h1 hz
      have hz : zz = tokV (M0 4) (M0 0 9) (glp g) := hz
      have ef : frX (M0 4) (M0 0 9) l most x = .inr (gpos g, glp g, (if most = 8 then max (gfar g) zz else gfar g), (fun l' b' => gsn g l' b' || (decide (l' = l) && decide (b' = zz))), gpg g) := by
        rw [hfr, hnum, e, hi, ← hz]
        rw [hbit, ← hz] at hb
        split
        · show (if gsn g l zz = true then _ else _) = _
          rw [if_neg hb]
        · show (if gsn g l zz = true then _ else _) = _
          rw [if_neg hb]
      rw [ef]
      refine ⟨Sk.data h1 hA hT (fun d => ⟨?_, fun l' hl' => ?_, fun l' b hl' b0 b1 => ?_, ?_⟩), fun _ _ => by rw [hi, hz]⟩
      · rw [upd2_eq, hw]
        have := d.1
        have hm' : (1 < most) ↔ most = 8 := by omega
        by_cases m8 : most = 8
        · rw [if_pos m8]; left; split <;> omega
        · rw [if_neg m8, if_neg (by omega)]; exact d.1
      · rw [upd2_ne2 (by decide), upd2_ne1 (by decide)]
        rw [d.2.1 l' hl']
        show _ = (gsn g l' 0 || (decide (l' = l) && decide ((0 : Int) = zz)))
        rw [decide_eq_false (show ¬ l' = l by omega), Bool.false_and, Bool.or_false]
      · rw [upd2_ne1 (by decide), upd2_at]
        show _ = (gsn g l' b || (decide (l' = l) && decide (b = zz)))
        by_cases el : l' = l
        · subst el
          rw [if_pos ⟨rfl, rfl⟩, hob.2 b b0 b1, d.2.2.1 l' b hl' b0 b1, decide_eq_true rfl, Bool.true_and]
        · rw [if_neg (fun z => el z.2), decide_eq_false el, Bool.false_and, Bool.or_false]
          exact d.2.2.1 l' b hl' b0 b1
      · rw [← d.2.2.2]
        funext i
        unfold rpg
        have z0 : ∀ j : Int, j ≠ 7 → (upd2 (upd2 M1 3 l (bor (M1 3 l) (pow2 zz))) 0 7 w) 0 j = M1 0 j := fun j hj => by rw [upd2_ne2 hj, upd2_ne1 (by decide)]
        have z2 : (upd2 (upd2 M1 3 l (bor (M1 3 l) (pow2 zz))) 0 7 w) 2 = M1 2 := by rw [upd2_ne1 (by decide), upd2_ne1 (by decide)]
        rw [z0 3 (by decide), z0 4 (by decide), z2]
