theorem setX_inl (k v : Int) (a : Int × Int) : setX k v (.inl a) = .inl a := rfl
theorem refX_inl {t : Int → Int} {len f : Int} (y : PX) : ∃ a, refX t len f y = .inl a := by
  cases y with
  | inl a => exact ⟨a, rfl⟩
  | inr g => exact ⟨_, rfl⟩
theorem word_name {M0 M : Mem} {y : PX} (h : Sk M0 M y) : ∀ nm : Int, nm = nameV (M0 4) (M0 0 9) (M 0 14) (M 0 13) (M 0 15) → (M 0 11 = 0 → wordX (M0 4) (M0 0 9) 0 y = (if 0 ≤ nm ∧ nm ≤ 8 then nm else -1) ∧ wordX (M0 4) (M0 0 9) 1 y = (if 9 ≤ nm then nm - 9 else -1)) ∧ (nm = -4 ∨ (0 ≤ nm ∧ nm ≤ 13)) := by
  intro nm hn
  subst hn
  refine ⟨fun h0 => ?_, name_word.2.2⟩
  obtain ⟨g, rfl⟩ := h.of0 h0
  obtain ⟨-, ⟨c1, c2, c3, c4, -⟩, -⟩ := h.2.2
  show wordF _ _ _ _ _ 0 = _ ∧ wordF _ _ _ _ _ 1 = _
  rw [← c2, ← c3, ← c4]
  exact ⟨name_word.1, name_word.2.1⟩
/-- a kind's name: where there is none, a fault -/
noncomputable def kd0 (t : Int → Int) (len : Int) (y : PX) : PX := if wordX t len 1 y < 0 then refX t len 2 y else y
theorem kd0_set {t : Int → Int} {len k w : Int} {y : PX} (h : ∀ g, kd0 t len y = .inr g → w = wordX t len 1 y) : setX k w (kd0 t len y) = kdX t len k y := by
  have e : kdX t len k y = if wordX t len 1 y < 0 then refX t len 2 y else setX k (wordX t len 1 y) y := rfl
  rw [e]
  unfold kd0 at h ⊢
  by_cases c : wordX t len 1 y < 0
  · rw [if_pos c, if_pos c]
    obtain ⟨a, ha⟩ := refX_inl (t := t) (len := len) (f := 2) y
    rw [ha]; rfl
  · rw [if_neg c] at h
    rw [if_neg c, if_neg c]
    cases q : y with
    | inl a => rfl
    | inr g => rw [h g q, q]
theorem Sk.kdA {M0 M : Mem} {y : PX} (h : Sk M0 M y) {nm : Int} (hn : nm = nameV (M0 4) (M0 0 9) (M 0 14) (M 0 13) (M 0 15)) (hc : M 0 11 ≠ 0 ∨ 0 ≤ nm - 9) : Sk M0 M (kd0 (M0 4) (M0 0 9) y) ∧ ∀ g, kd0 (M0 4) (M0 0 9) y = .inr g → nm - 9 = wordX (M0 4) (M0 0 9) 1 y := by
  by_cases h0 : M 0 11 = 0
  · have q := ((word_name h nm hn).1 h0).2
    rw [if_pos (by omega)] at q
    unfold kd0
    rw [if_neg (by omega)]
    exact ⟨h, fun _ _ => q.symm⟩
  · obtain ⟨a, e⟩ := h.of1 h0
    subst e
    unfold kd0
    rw [if_pos (show wordX (M0 4) (M0 0 9) 1 (.inl a) < 0 from (show (-1 : Int) < 0 by decide))]
    exact ⟨h, fun g z => by cases z⟩
theorem Sk.kdB {M0 M MM : Mem} {y : PX} (h : Sk M0 M y) {nm : Int} (hn : nm = nameV (M0 4) (M0 0 9) (M 0 14) (M 0 13) (M 0 15)) (h0 : M 0 11 = 0) (hc : nm - 9 < 0) (hf : failP M MM 2) : Sk M0 MM (kd0 (M0 4) (M0 0 9) y) ∧ ∀ g, kd0 (M0 4) (M0 0 9) y = .inr g → nm - 9 = wordX (M0 4) (M0 0 9) 1 y := by
  have q := ((word_name h nm hn).1 h0).2
  rw [if_neg (by omega)] at q
  unfold kd0
  rw [if_pos (by omega)]
  refine ⟨h.fail (by decide) hf, fun g z => ?_⟩
  obtain ⟨a, ha⟩ := refX_inl (t := M0 4) (len := M0 0 9) (f := 2) y
  rw [ha] at z
  cases z
/-- a word's bit among those told once -/
theorem Sk.once {M0 M M1 : Mem} {y : PX} {l v : Int} (h1 : Sk M0 M1 y) (hv : 0 ≤ v ∧ v ≤ 511) (hb : ∀ l', (l' = 0 ∨ l' = 4 ∨ l' = 7 ∨ l' = 8) → bitB v l' = (bitB (M1 0 5) l' || decide (l' = l))) : Sk M0 (upd2 M1 0 5 v) (match y with | .inl a => .inl a | .inr g => .inr (gpos g, glp g, gfar g, (fun l' b' => gsn g l' b' || ((decide (l' = 0) || decide (l' = 4) || decide (l' = 7) || decide (l' = 8)) && decide (l' = l) && decide (b' = 0))), gpg g)) := by
  have hA := h1.1.own (j := 5) (v := v) (by omega)
  have hT : ∀ j, 11 ≤ j → j ≤ 16 → (upd2 M1 0 5 v) 0 j = M1 0 j := fun j _ _ => by rw [upd2_ne2 (by omega)]
  cases y with
  | inl a => exact Sk.inl h1 hA hT
  | inr g =>
    refine Sk.datw h1 hA hT (fun d => ⟨by rw [upd2_ne2 (by decide)]; exact d.1, fun l' hl => ?_, fun l' b hl b0 b1 => ?_, ?_⟩)
    · rw [upd2_eq, hb l' hl, d.2.1 l' hl]
      show _ = (gsn g l' 0 || ((decide (l' = 0) || decide (l' = 4) || decide (l' = 7) || decide (l' = 8)) && decide (l' = l) && decide ((0 : Int) = 0)))
      rcases hl with rfl | rfl | rfl | rfl <;> simp
    · rw [upd2_ne1 (by decide), d.2.2.1 l' b hl b0 b1]
      show _ = (gsn g l' b || ((decide (l' = 0) || decide (l' = 4) || decide (l' = 7) || decide (l' = 8)) && decide (l' = l) && decide (b = 0)))
      rcases hl with rfl | rfl | rfl | rfl | rfl <;> simp
    · rw [← d.2.2.2]
      funext i
      unfold rpg
      rw [upd2_ne2 (by decide), upd2_ne2 (by decide), upd2_ne1 (by decide)]
theorem Sk.onceN {M0 M1 : Mem} {y : PX} {l v : Int} (h1 : Sk M0 M1 y) (hl : l = 1 ∨ l = 2 ∨ l = 3 ∨ l = 5 ∨ l = 6) (hv : v = bor (M1 0 5) (pow2 l)) : Sk M0 (upd2 M1 0 5 v) y := by
  have hob := or_bit h1.1.2.2.1 (b := l) (by omega)
  have q := Sk.once (M := M1) (l := l) h1 (v := v) (by rw [hv]; exact hob.1) (fun l' hl' => by rw [hv]; exact hob.2 l' (by omega) (by omega))
  cases y with
  | inl a => exact q
  | inr g =>
    have e : (fun l' b' => gsn g l' b' || ((decide (l' = 0) || decide (l' = 4) || decide (l' = 7) || decide (l' = 8)) && decide (l' = l) && decide (b' = 0))) = gsn g := by
      funext l' b'
      have : (((decide (l' = 0) || decide (l' = 4) || decide (l' = 7) || decide (l' = 8)) && decide (l' = l)) : Bool) = false := by
        by_cases el : l' = l
        · subst el
          rcases hl with rfl | rfl | rfl | rfl | rfl <;> simp
        · rw [decide_eq_false el, Bool.and_false]
      rw [this, Bool.false_and, Bool.or_false]
    have q2 : Sk M0 (upd2 M1 0 5 v) (.inr (gpos g, glp g, gfar g, (fun l' b' => gsn g l' b' || ((decide (l' = 0) || decide (l' = 4) || decide (l' = 7) || decide (l' = 8)) && decide (l' = l) && decide (b' = 0))), gpg g)) := q
    rw [e] at q2
    exact q2
/-- a line of which there is one: its word marked -/
theorem Sk.onceM {M0 M M1 : Mem} {y : PX} {l v : Int} (hS : Sk M0 M y) (hl : l = 0 ∨ l = 4 ∨ l = 7 ∨ l = 8) (h0 : M 0 11 = 0) (hp : (M 0 5 / pow2 l % 2 ≠ 1 ∧ M1 = M) ∨ (M 0 5 / pow2 l % 2 = 1 ∧ failP M M1 4)) (hv : v = bor (M1 0 5) (pow2 l)) : Sk M0 (upd2 M1 0 5 v) (markX (M0 4) (M0 0 9) l 0 y) := by
  obtain ⟨g, rfl⟩ := hS.of0 h0
  have hbit := hS.2.2.2.2.2.1 l hl
  rcases hp with ⟨hb, rfl⟩ | ⟨hb, hf⟩
  · have hob := or_bit hS.1.2.2.1 (b := l) (by omega)
    have q := Sk.once (M := M1) (l := l) hS (v := v) (by rw [hv]; exact hob.1) (fun l' hl' => by rw [hv]; exact hob.2 l' (by omega) (by omega))
    have e : markX (M0 4) (M0 0 9) l 0 (.inr g) = .inr (gpos g, glp g, gfar g, (fun l' b' => gsn g l' b' || (decide (l' = l) && decide (b' = 0))), gpg g) := by
      show (if gsn g l 0 = true then _ else _) = _
      rw [if_neg]
      rw [← hbit]
      unfold bitB
      rw [decide_eq_true_iff]
      exact hb
    rw [e]
    have e2 : (fun l' b' => gsn g l' b' || ((decide (l' = 0) || decide (l' = 4) || decide (l' = 7) || decide (l' = 8)) && decide (l' = l) && decide (b' = 0))) = (fun l' b' => gsn g l' b' || (decide (l' = l) && decide (b' = 0))) := by
      funext l' b'
      by_cases el : l' = l
      · subst el
        rcases hl with rfl | rfl | rfl | rfl <;> simp
      · rw [decide_eq_false el, Bool.and_false]
    have q2 : Sk M0 (upd2 M1 0 5 v) (.inr (gpos g, glp g, gfar g, (fun l' b' => gsn g l' b' || ((decide (l' = 0) || decide (l' = 4) || decide (l' = 7) || decide (l' = 8)) && decide (l' = l) && decide (b' = 0))), gpg g)) := q
    rw [e2] at q2
    exact q2
  · have e : markX (M0 4) (M0 0 9) l 0 (.inr g) = refX (M0 4) (M0 0 9) 4 (.inr g) := by
      show (if gsn g l 0 = true then _ else _) = _
      rw [if_pos]
      · rfl
      rw [← hbit]
      unfold bitB
      rw [decide_eq_true_iff]
      exact hb
    rw [e]
    have h1 := hS.fail (f := 4) (by decide) hf
    have hob := or_bit h1.1.2.2.1 (b := l) (by omega)
    exact Sk.once (M := M1) (l := l) h1 (v := v) (by rw [hv]; exact hob.1) (fun l' hl' => by rw [hv]; exact hob.2 l' (by omega) (by omega))
section PL
variable (t : Int → Int) (len : Int)
noncomputable def ofX (l : Int) (x : PX) : PX := if l = 1 then cellX t len 1 0 1 12 x else if l = 2 then cellX t len 2 1 0 6 x else if l = 3 then cellX t len 3 2 0 9 x else if l = 5 then sideX t len 5 x else foolsX t len 6 x
def onX (l : Int) (x : PX) : PX := if l = 0 then setX 47 (numV t len 3 9 x) (numX t len 3 9 x) else if l = 4 then setX 27 (numV t len 0 8 x) (farX (numV t len 0 8 x) (numX t len 0 8 x)) else if l = 7 then setX 44 (numV t len 1 4 x) (numX t len 1 4 x) else setX 45 (numV t len 0 7 x) (numX t len 0 7 x)
theorem body_of {l : Int} {x : PX} (hw : wordX t len 0 x = l) (hl : l = 1 ∨ l = 2 ∨ l = 3 ∨ l = 5 ∨ l = 6) : bodyX t len x = ofX t len l x := by
  unfold ofX
  rcases hl with rfl | rfl | rfl | rfl | rfl
  · rw [if_pos rfl]; exact bodyX_1 hw
  · rw [if_neg (by decide), if_pos rfl]; exact bodyX_2 hw
  · rw [if_neg (by decide), if_neg (by decide), if_pos rfl]; exact bodyX_3 hw
  · rw [if_neg (by decide), if_neg (by decide), if_neg (by decide), if_pos rfl]; exact bodyX_5 hw
  · rw [if_neg (by decide), if_neg (by decide), if_neg (by decide), if_neg (by decide)]; exact bodyX_6 hw
theorem body_on {l : Int} {x : PX} (hw : wordX t len 0 x = l) (hl : l = 0 ∨ l = 4 ∨ l = 7 ∨ l = 8) : bodyX t len x = onX t len l (markX t len l 0 x) := by
  unfold onX
  rcases hl with rfl | rfl | rfl | rfl
  · rw [if_pos rfl]; exact bodyX_0 hw
  · rw [if_neg (by decide), if_pos rfl]; exact bodyX_4 hw
  · rw [if_neg (by decide), if_neg (by decide), if_pos rfl]; exact bodyX_7 hw
  · rw [if_neg (by decide), if_neg (by decide), if_neg (by decide)]; exact bodyX_8 hw
theorem signX_inl (a : Int × Int) : signX t len (.inl a) = .inl a := rfl
end PL
theorem Sk.sign {M0 M MM : Mem} {b : PX} (h : Sk M0 M (nextX (M0 4) (M0 0 9) b)) (hp : (MM = M ∧ (M 0 11 ≠ 0 ∨ M 0 15 = 3)) ∨ (M 0 11 = 0 ∧ M 0 15 ≠ 3 ∧ failP M MM 2)) : Sk M0 MM (signX (M0 4) (M0 0 9) b) := by
  have e : signX (M0 4) (M0 0 9) b = if kindX (M0 4) (M0 0 9) (nextX (M0 4) (M0 0 9) b) = 3 then nextX (M0 4) (M0 0 9) b else refX (M0 4) (M0 0 9) 2 (nextX (M0 4) (M0 0 9) b) := rfl
  rw [e]
  obtain ⟨y, hy⟩ : ∃ y, y = nextX (M0 4) (M0 0 9) b := ⟨_, rfl⟩
  rw [← hy] at h ⊢
  clear e hy
  by_cases h0 : M 0 11 = 0
  · obtain ⟨g, rfl⟩ := h.of0 h0
    have k : kindX (M0 4) (M0 0 9) (.inr g) = M 0 15 := h.2.2.2.1.2.2.2.1.symm
    rw [k]
    rcases hp with ⟨rfl, q⟩ | ⟨-, q, hf⟩
    · rw [if_pos (by omega)]; exact h
    · rw [if_neg q]; exact h.fail (by decide) hf
  · obtain ⟨a, rfl⟩ := h.of1 h0
    rcases hp with ⟨rfl, -⟩ | ⟨q, -⟩
    · have k : kindX (M0 4) (M0 0 9) (.inl a) = -1 := rfl
      rw [k, if_neg (by decide)]; exact h
    · exact absurd q h0
