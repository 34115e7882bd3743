/-! the text as a whole -/
section PG
variable (t : Int → Int) (len : Int)
/-- the place goes on -/
def Fwd (x y : PX) : Prop := ∀ g', y = .inr g' → ∃ g, x = .inr g ∧ gpos g ≤ gpos g' ∧ gpos g' ≤ len
theorem fwd_next (ht : ∀ i, 0 ≤ t i ∧ t i ≤ 255) {x : PX} (hx : ∀ g, x = .inr g → 0 ≤ gpos g ∧ gpos g ≤ len) : Fwd len x (nextX t len x) := by
  intro g' h
  cases x with
  | inl a => cases h
  | inr g =>
    have hg := hx g rfl
    refine ⟨g, rfl, ?_⟩
    have e : (if tokK t len (gpos g) = 4 then (.inl (1, tokS t len (gpos g)) : PX) else .inr (tokN t len (gpos g), gpos g, gfar g, gsn g, gpg g)) = .inr g' := h
    by_cases c : tokK t len (gpos g) = 4
    · rw [if_pos c] at e; cases e
    · rw [if_neg c] at e
      cases e
      have h1 := tokS_rng (t := t) hg.2
      have h2 := tokN_rng ht hg.1 hg.2
      show gpos g ≤ tokN t len (gpos g) ∧ tokN t len (gpos g) ≤ len
      omega
theorem Fwd.rf {x : PX} (hx : ∀ g, x = .inr g → gpos g ≤ len) : Fwd len x x := fun g h => ⟨g, h, Int.le_refl _, hx g h⟩
theorem Fwd.trans {x y z : PX} (h : Fwd len x y) (h2 : Fwd len y z) : Fwd len x z := by
  intro g' e
  obtain ⟨g1, e1, a1, b1⟩ := h2 g' e
  obtain ⟨g, e2, a2, b2⟩ := h g1 e1
  exact ⟨g, e2, by omega, b1⟩
theorem Fwd.in {x y : PX} (h : Fwd len x y) (hx : ∀ g, x = .inr g → 0 ≤ gpos g ∧ gpos g ≤ len) : ∀ g, y = .inr g → 0 ≤ gpos g ∧ gpos g ≤ len := by
  intro g e
  obtain ⟨g1, e1, a, b⟩ := h g e
  have := hx g1 e1
  omega
/-- what keeps the place -/
def Kps (F : PX → PX) : Prop := ∀ x g', F x = .inr g' → ∃ g, x = .inr g ∧ gpos g = gpos g'
theorem Kps.fwd {F : PX → PX} (h : Kps F) {x : PX} (hx : ∀ g, x = .inr g → 0 ≤ gpos g ∧ gpos g ≤ len) : Fwd len x (F x) := by
  intro g' e
  obtain ⟨g, e1, e2⟩ := h x g' e
  exact ⟨g, e1, by omega, by rw [← e2]; exact (hx g e1).2⟩
theorem kps_far (i : Int) : Kps (farX i) := by
  intro x g' e
  cases x with
  | inl a => cases e
  | inr g => cases e; exact ⟨g, rfl, rfl⟩
theorem kps_set (k v : Int) : Kps (setX k v) := by
  intro x g' e
  cases x with
  | inl a => cases e
  | inr g => cases e; exact ⟨g, rfl, rfl⟩
theorem kps_mark (l b : Int) : Kps (markX t len l b) := by
  intro x g' e
  cases x with
  | inl a => cases e
  | inr g =>
    have e : (if gsn g l b = true then (.inl (4, tokS t len (glp g)) : PX) else .inr (gpos g, glp g, gfar g, (fun l' b' => gsn g l' b' || (decide (l' = l) && decide (b' = b))), gpg g)) = .inr g' := e
    split at e
    · cases e
    · cases e; exact ⟨g, rfl, rfl⟩
theorem kps_chk (lo up : Int) : Kps (chkX t len lo up) := by
  intro x g' e
  cases x with
  | inl a => cases e
  | inr g =>
    have e : (if tokK t len (glp g) = 2 then (if tokV t len (glp g) < lo ∨ up < tokV t len (glp g) then (.inl (3, tokS t len (glp g)) : PX) else .inr g) else .inl (2, tokS t len (glp g))) = .inr g' := e
    split at e
    · split at e
      · cases e
      · cases e; exact ⟨_, rfl, rfl⟩
    · cases e
theorem kps_ref (f : Int) : Kps (refX t len f) := by
  intro x g' e
  obtain ⟨a, ha⟩ := refX_inl (t := t) (len := len) (f := f) x
  rw [ha] at e; cases e
theorem kps_kd (k : Int) : Kps (kdX t len k) := by
  intro x g' e
  have e : (if wordX t len 1 x < 0 then refX t len 2 x else setX k (wordX t len 1 x) x) = .inr g' := e
  split at e
  · exact kps_ref t len 2 x g' e
  · exact kps_set k _ x g' e
theorem fwd_num (ht : ∀ i, 0 ≤ t i ∧ t i ≤ 255) {lo up : Int} {x : PX} (hx : ∀ g, x = .inr g → 0 ≤ gpos g ∧ gpos g ≤ len) : Fwd len x (numX t len lo up x) :=
  (fwd_next t len ht hx).trans len ((kps_chk t len lo up).fwd len ((fwd_next t len ht hx).in len hx))
theorem fwd_body (ht : ∀ i, 0 ≤ t i ∧ t i ≤ 255) {x : PX} (hx : ∀ g, x = .inr g → 0 ≤ gpos g ∧ gpos g ≤ len) : Fwd len x (bodyX t len x) := by
  have num : ∀ (lo up : Int) (y : PX), (∀ g, y = .inr g → 0 ≤ gpos g ∧ gpos g ≤ len) → Fwd len y (numX t len lo up y) := fun lo up y hy => fwd_num t len ht hy
  have only : ∀ (l lo up : Int), Fwd len x (onlyX t len l lo up x) := fun l lo up =>
    ((kps_mark t len l 0).fwd len hx).trans len (num lo up _ (((kps_mark t len l 0).fwd len hx).in len hx))
  have cell : ∀ (l c lo up : Int), Fwd len x (cellX t len l c lo up x) := by
    intro l c lo up
    have a1 := num 0 8 x hx
    have a2 := a1.trans len ((kps_far (numV t len 0 8 x)).fwd len (a1.in len hx))
    have a3 := a2.trans len ((kps_mark t len l (numV t len 0 8 x)).fwd len (a2.in len hx))
    have a4 := a3.trans len (num lo up _ (a3.in len hx))
    exact a4.trans len ((kps_set _ _).fwd len (a4.in len hx))
  unfold bodyX
  simp only
  split
  · exact (only 0 3 9).trans len ((kps_set _ _).fwd len ((only 0 3 9).in len hx))
  split
  · exact cell 1 0 1 12
  split
  · exact cell 2 1 0 6
  split
  · exact cell 3 2 0 9
  split
  · have a1 := (only 4 0 8).trans len ((kps_far (onlyV t len 4 0 8 x)).fwd len ((only 4 0 8).in len hx))
    exact a1.trans len ((kps_set _ _).fwd len (a1.in len hx))
  split
  · have a1 := num 0 1 x hx
    have a2 := a1.trans len ((kps_mark t len 5 (numV t len 0 1 x)).fwd len (a1.in len hx))
    have a3 := a2.trans len (num 0 12 _ (a2.in len hx))
    have a4 := a3.trans len ((kps_set (28 + 8 * numV t len 0 1 x + 0) (numV t len 0 12 (markX t len 5 (numV t len 0 1 x) (numX t len 0 1 x)))).fwd len (a3.in len hx))
    have a5 := a4.trans len (fwd_next t len ht (a4.in len hx))
    have a6 := a5.trans len ((kps_kd t len (28 + 8 * numV t len 0 1 x + 6)).fwd len (a5.in len hx))
    have a7 := a6.trans len (num 0 12 _ (a6.in len hx))
    exact a7.trans len ((kps_set _ _).fwd len (a7.in len hx))
  split
  · have a1 := num 0 1 x hx
    have a2 := a1.trans len ((kps_mark t len 6 (numV t len 0 1 x)).fwd len (a1.in len hx))
    have a3 := a2.trans len (num 0 5 _ (a2.in len hx))
    exact a3.trans len ((kps_set _ _).fwd len (a3.in len hx))
  split
  · exact (only 7 1 4).trans len ((kps_set _ _).fwd len ((only 7 1 4).in len hx))
  split
  · exact (only 8 0 7).trans len ((kps_set _ _).fwd len ((only 8 0 7).in len hx))
  · exact (kps_ref t len 2).fwd len hx
theorem step_pos (ht : ∀ i, 0 ≤ t i ∧ t i ≤ 255) {g g' : PSt} (hx : 0 ≤ gpos g ∧ gpos g ≤ len) (h : stepX t len (.inr g) = .inr g') : gpos g + 1 ≤ gpos g' ∧ gpos g' ≤ len := by
  have hx1 : ∀ q, (.inr g : PX) = .inr q → 0 ≤ gpos q ∧ gpos q ≤ len := fun q e => by cases e; exact hx
  have a1 := fwd_next t len ht hx1
  have a2 := a1.trans len (fwd_body t len ht (a1.in len hx1))
  obtain ⟨b, hb⟩ : ∃ b, b = bodyX t len (nextX t len (.inr g)) := ⟨_, rfl⟩
  have hs : signX t len b = .inr g' := by rw [hb]; exact h
  rw [← hb] at a2
  have e : (if kindX t len (nextX t len b) = 3 then nextX t len b else refX t len 2 (nextX t len b)) = .inr g' := hs
  split at e
  · rename_i k3
    obtain ⟨gb, e1, p1, p2⟩ := fwd_next t len ht (a2.in len hx1) g' e
    obtain ⟨g0, e2, q1, q2⟩ := a2 gb e1
    cases e2
    rw [e1] at e
    have e : (if tokK t len (gpos gb) = 4 then (.inl (1, tokS t len (gpos gb)) : PX) else .inr (tokN t len (gpos gb), gpos gb, gfar gb, gsn gb, gpg gb)) = .inr g' := e
    split at e
    · cases e
    · rename_i c4
      have z : nextX t len (.inr gb) = .inr (tokN t len (gpos gb), gpos gb, gfar gb, gsn gb, gpg gb) := by
        show (if tokK t len (gpos gb) = 4 then _ else _) = _
        exact if_neg c4
      rw [e1, z] at k3
      have k3 : tokK t len (gpos gb) = 3 := k3
      cases e
      have hS := tokS_rng (t := t) (n := gpos gb) q2
      have k0 : tokK0 t len (gpos gb) = 3 := by
        unfold tokK at k3
        split at k3
        · omega
        · exact k3
      have hN : tokN t len (gpos gb) = tokS t len (gpos gb) + 1 := by unfold tokN; rw [k0]; rfl
      show gpos g + 1 ≤ tokN t len (gpos gb) ∧ tokN t len (gpos gb) ≤ len
      have p2 : tokN t len (gpos gb) ≤ len := p2
      omega
  · obtain ⟨a, ha⟩ := refX_inl (t := t) (len := len) (f := 2) (nextX t len b)
    rw [ha] at e; cases e
end PG
def FinR (M0 M : Mem) (y : PX) : Prop := RgA M0 M ∧ (match y with
  | .inl a => BrR M a
  | .inr g => M 0 11 = 0 ∧ M 0 14 = M0 0 9 ∧ DdR M (gfar g) (gsn g) (gpg g))
/-- at the end of a text's lines -/
theorem Sk.fin {M0 M : Mem} {x : PX} {n : Int} (h : Sk M0 M (nextX (M0 4) (M0 0 9) x)) (hx : M 0 11 ≠ 0 ∨ M 0 15 = 0) (hn : 0 ≤ n ∧ n ≤ 320) (h1 : ∀ g, x = .inr g → runX (M0 4) (M0 0 9) (320 - n).toNat n x = runX (M0 4) (M0 0 9) 320 0 st0 ∧ n ≤ gpos g ∧ gpos g ≤ M0 0 9) (h2 : ∀ a, x = .inl a → (runX (M0 4) (M0 0 9) 320 0 st0).2 = .inl a) :
    ∃ y, FinR M0 M y ∧ (runX (M0 4) (M0 0 9) 320 0 st0).2 = y ∧ ∀ g, y = .inr g → (runX (M0 4) (M0 0 9) 320 0 st0).1 = n := by
  have hlen := h.1.2.2.2.2.2.2.1
  have hbt := h.1.2.2.2.2.2.2.2.1
  cases x with
  | inl a => exact ⟨.inl a, ⟨h.1, h.2.2⟩, h2 a rfl, fun g e => by cases e⟩
  | inr g =>
    obtain ⟨r1, r2, r3⟩ := h1 g rfl
    have hS := tokS_rng (t := M0 4) (len := M0 0 9) (n := gpos g) r3
    by_cases k4 : tokK (M0 4) (M0 0 9) (gpos g) = 4
    · have hlt : n < 320 := by
        by_cases z : n < 320
        · exact z
        · exfalso
          have z2 : tokS (M0 4) (M0 0 9) (gpos g) = M0 0 9 := by omega
          have z3 : tokK0 (M0 4) (M0 0 9) (gpos g) = 0 := by unfold tokK0; rw [z2]; exact (kindF_b hbt (by omega)).2 (Int.le_refl _)
          unfold tokK at k4
          rw [z3] at k4
          rw [if_neg (by omega)] at k4
          omega
      rw [nextX_4 k4] at h
      rw [show (320 - n).toNat = (319 - n).toNat + 1 by omega, runX, nextX_4 k4] at r1
      have r1 : (n, (.inl (1, tokS (M0 4) (M0 0 9) (gpos g)) : PX)) = runX (M0 4) (M0 0 9) 320 0 st0 := r1
      rw [← r1]
      exact ⟨.inl (1, tokS (M0 4) (M0 0 9) (gpos g)), ⟨h.1, h.2.2⟩, rfl, fun g e => by cases e⟩
    · rw [nextX_n k4] at h
      obtain ⟨b0, ⟨c1, c2, c3, c4, c5, c6, c7, c8⟩, bd⟩ := h.2.2
      have k0 : tokK (M0 4) (M0 0 9) (gpos g) = 0 := by
        have c4 : M 0 15 = tokK (M0 4) (M0 0 9) (gpos g) := c4
        omega
      have c7 : 0 ≤ gpos g := c7
      have k00 : tokK0 (M0 4) (M0 0 9) (gpos g) = 0 := by
        unfold tokK at k0
        split at k0
        · omega
        · exact k0
      have hend : M0 0 9 ≤ tokS (M0 4) (M0 0 9) (gpos g) := by unfold tokK0 at k00; exact (kindF_b hbt (by omega)).1 k00
      have h14 : M 0 14 = M0 0 9 := by rw [c2]; show tokS _ _ (gpos g) = _; omega
      by_cases z : n < 320
      · rw [show (320 - n).toNat = (319 - n).toNat + 1 by omega, runX, nextX_n k4] at r1
        have r1 : (if tokK (M0 4) (M0 0 9) (gpos g) = 0 then (n, (.inr (tokN (M0 4) (M0 0 9) (gpos g), gpos g, gfar g, gsn g, gpg g) : PX)) else _) = runX (M0 4) (M0 0 9) 320 0 st0 := r1
        rw [if_pos k0] at r1
        rw [← r1]
        exact ⟨.inr (tokN (M0 4) (M0 0 9) (gpos g), gpos g, gfar g, gsn g, gpg g), ⟨h.1, b0, h14, bd⟩, rfl, fun _ _ => rfl⟩
      · rw [show (320 - n).toNat = 0 by omega, runX] at r1
        rw [← r1]
        exact ⟨.inr g, ⟨h.1, b0, h14, bd⟩, rfl, fun _ _ => rfl⟩
theorem Sk.more {M0 M : Mem} {x : PX} {n : Int} (h : Sk M0 M (nextX (M0 4) (M0 0 9) x)) (h0 : M 0 11 = 0) (ht : M 0 15 ≠ 0) (hn : 0 ≤ n ∧ n ≤ 320) (h1 : ∀ g, x = .inr g → runX (M0 4) (M0 0 9) (320 - n).toNat n x = runX (M0 4) (M0 0 9) 320 0 st0 ∧ n ≤ gpos g ∧ gpos g ≤ M0 0 9) : n < 320 ∧ (∀ g, stepX (M0 4) (M0 0 9) x = .inr g → runX (M0 4) (M0 0 9) (320 - (n + 1)).toNat (n + 1) (stepX (M0 4) (M0 0 9) x) = runX (M0 4) (M0 0 9) 320 0 st0 ∧ n + 1 ≤ gpos g ∧ gpos g ≤ M0 0 9) ∧ (∀ a, stepX (M0 4) (M0 0 9) x = .inl a → (runX (M0 4) (M0 0 9) 320 0 st0).2 = .inl a) := by
  have hlen := h.1.2.2.2.2.2.2.1
  have hbt := h.1.2.2.2.2.2.2.2.1
  obtain ⟨g1, e1⟩ := h.of0 h0
  cases x with
  | inl a => cases e1
  | inr g =>
    obtain ⟨r1, r2, r3⟩ := h1 g rfl
    have k4 : tokK (M0 4) (M0 0 9) (gpos g) ≠ 4 := by
      intro k
      rw [nextX_4 k] at e1
      cases e1
    rw [nextX_n k4] at h
    obtain ⟨b0, ⟨c1, c2, c3, c4, c5, c6, c7, c8⟩, bd⟩ := h.2.2
    have c7 : 0 ≤ gpos g := c7
    have k0 : tokK (M0 4) (M0 0 9) (gpos g) ≠ 0 := by
      have c4 : M 0 15 = tokK (M0 4) (M0 0 9) (gpos g) := c4
      omega
    have hS := tokS_rng (t := M0 4) (len := M0 0 9) (n := gpos g) r3
    have hlt : n < 320 := by
      by_cases z : n < 320
      · exact z
      · exfalso
        have z2 : tokS (M0 4) (M0 0 9) (gpos g) = M0 0 9 := by omega
        have z3 : tokK0 (M0 4) (M0 0 9) (gpos g) = 0 := by unfold tokK0; rw [z2]; exact (kindF_b hbt (by omega)).2 (Int.le_refl _)
        apply k0
        unfold tokK
        rw [z3, if_neg (by omega)]
    rw [show (320 - n).toNat = (320 - (n + 1)).toNat + 1 by omega, runX, nextX_n k4] at r1
    have r1 : (if tokK (M0 4) (M0 0 9) (gpos g) = 0 then (n, (.inr (tokN (M0 4) (M0 0 9) (gpos g), gpos g, gfar g, gsn g, gpg g) : PX)) else match stepX (M0 4) (M0 0 9) (.inr g) with | .inl a => (n, .inl a) | .inr g' => runX (M0 4) (M0 0 9) (320 - (n + 1)).toNat (n + 1) (.inr g')) = runX (M0 4) (M0 0 9) 320 0 st0 := r1
    rw [if_neg k0] at r1
    refine ⟨hlt, fun g' e => ?_, fun a e => ?_⟩
    · have sp := step_pos (M0 4) (M0 0 9) hbt ⟨c7, r3⟩ e
      rw [e] at r1 ⊢
      exact ⟨r1, by omega, sp.2⟩
    · rw [e] at r1
      rw [← r1]
theorem st0_Sn {M0 M : Mem} (hf : ∀ (q : Nat) (j : Int), ¬ Scell q j → M q j = M0 q j) (h11 : M 0 11 = 0) (h13 : M 0 13 = 0) (h3 : M 0 3 = 5) (h4 : M 0 4 = -4) (h5 : M 0 5 = 0) (h7 : M 0 7 = -1) (hp : ∀ j, 0 ≤ j → j < 47 → M 2 j = 0) (ht : ∀ j, 0 ≤ j → j < 9 → M 3 j = 0) (hl : 0 ≤ M0 0 9 ∧ M0 0 9 ≤ 320) (hb : ∀ i, 0 ≤ M0 4 i ∧ M0 4 i ≤ 255) (hc5 : ∀ i, 0 ≤ i → i < 15 → M0 5 i = cutI i) (hc6 : ∀ i, 0 ≤ i → i < 64 → M0 6 i = letT i) : Sn M0 M st0 := by
  refine ⟨⟨hf, by omega, by omega, fun l a b => by rw [ht l a b]; omega, by omega, by omega, hl, hb, hc5, hc6⟩, h11, h13, Int.le_refl 0, hl.1, Or.inr ⟨h7, rfl⟩, fun l hl => by rw [h5]; exact bitB_0 l, fun l b hl _ _ => by rw [ht l (by omega) (by omega)]; exact bitB_0 b, ?_⟩
  funext i
  show rpg M i = setF clearF 27 (-1) i
  unfold rpg setF
  by_cases e : i = 47
  · subst e; rw [if_pos rfl, if_neg (by decide), h3]; rfl
  · by_cases e2 : i = 27
    · subst e2; rw [if_neg e, if_pos rfl, if_pos h4, if_pos rfl]
    · rw [if_neg e, if_neg e2, if_neg e2]
      by_cases hb : 0 ≤ i ∧ i < 47
      · rw [hp i hb.1 hb.2]
        unfold pgV clearF
        (repeat' split) <;> omega
      · rw [pgV_out (by omega)]
        unfold clearF
        rw [if_neg e2, if_neg (by omega), if_neg e, if_neg (by omega)]
def ClR (M0 M : Mem) (y : PX) : Prop := RgA M0 M ∧ (match y with
  | .inl a => BrR M a
  | .inr g => M 0 11 = 0 ∧ gpg g = setF (rpg M) 27 (if M 0 4 = -4 then M 0 3 / 2 else M 0 4))
theorem FinR.closeA {M0 M : Mem} {y : PX} (h : FinR M0 M y) (h0 : M 0 11 ≠ 0) : ClR M0 M (closeX (M0 0 9) y) := by
  cases y with
  | inl a => exact ⟨h.1, h.2⟩
  | inr g => exact absurd h.2.1 h0
theorem FinR.closeC {M0 M : Mem} {y : PX} (h : FinR M0 M y) (h0 : M 0 11 = 0) (hh : M 0 7 < M 0 3) : ClR M0 M (closeX (M0 0 9) y) := by
  cases y with
  | inl a => have h1 := h.2.1; have h2 := h.2.2.1; omega
  | inr g =>
    obtain ⟨a, b, c, d, e, f⟩ := h.2
    have hc := h.1.2.2.2.2.1
    have e47 : gpg g 47 = M 0 3 := by rw [← f]; rfl
    have e27 : gpg g 27 = if M 0 4 = -4 then -1 else M 0 4 := by rw [← f]; rfl
    have hk := h.1.2.2.2.2.2.1
    have z : closeX (M0 0 9) (.inr g) = .inr (gpos g, glp g, gfar g, gsn g, setF (gpg g) 27 (if gpg g 27 = -1 then gpg g 47 / 2 else gpg g 27)) := by
      show (if gpg g 47 ≤ gfar g then _ else _) = _
      rw [if_neg (by omega)]
    rw [z]
    refine ⟨h.1, a, ?_⟩
    show setF (gpg g) 27 (if gpg g 27 = -1 then gpg g 47 / 2 else gpg g 27) = _
    rw [e47, e27, f]
    congr 1
    by_cases q : M 0 4 = -4
    · rw [if_pos q, if_pos rfl, if_pos q]
    · rw [if_neg q, if_neg (by omega), if_neg q]
theorem FinR.closeB {M0 M MM : Mem} {y : PX} (h : FinR M0 M y) (h0 : M 0 11 = 0) (hh : M 0 3 ≤ M 0 7) (hf : failP M MM 5) : ClR M0 MM (closeX (M0 0 9) y) := by
  cases y with
  | inl a => have h1 := h.2.1; have h2 := h.2.2.1; omega
  | inr g =>
    obtain ⟨a, b, c, d, e, f⟩ := h.2
    have hc := h.1.2.2.2.2.1
    have hl := h.1.2.2.2.2.2.2.1
    have e47 : gpg g 47 = M 0 3 := by rw [← f]; rfl
    have z : closeX (M0 0 9) (.inr g) = .inl (5, M0 0 9) := by
      show (if gpg g 47 ≤ gfar g then _ else _) = _
      rw [if_pos (by omega)]
    rw [z]
    rcases hf with ⟨-, rfl⟩ | ⟨q, -⟩
    · refine ⟨h.1.same (fun q j hq => by rw [upd2_at, if_neg (by omega), upd2_at, if_neg (by omega)]), ?_, (show (1 : Int) ≤ 5 by decide), (show (5 : Int) ≤ 5 by decide), ?_, hl.1, hl.2⟩
      · rw [upd2_ne2 (by decide), upd2_eq]
      · rw [upd2_eq, b]
    · exact absurd h0 q
theorem ClR.rng {M0 M : Mem} {y : PX} (h : ClR M0 M y) : (0 ≤ M 0 11 ∧ M 0 11 ≤ 5) ∧ (M 0 11 ≠ 0 → 0 ≤ M 0 12 ∧ M 0 12 ≤ 320) := by
  cases y with
  | inl a => obtain ⟨b1, b2, b3, b4, b5, b6⟩ := h.2; omega
  | inr g => have := h.2.1; omega
def textR (M : Mem) (zz : Int) (MM : Mem) : Prop := match closeX (M 0 9) (runX (M 4) (M 0 9) 320 0 st0).2 with
  | .inl a => zz = -10 - a.2 ∧ MM 0 10 = a.1 ∧ 1 ≤ a.1 ∧ a.1 ≤ 5 ∧ MM 0 9 = 0 ∧ ∀ (q : Nat) (j : Int), ¬ (Scell q j ∨ (q = 0 ∧ (j = 9 ∨ j = 10))) → MM q j = M q j
  | .inr g => zz = (runX (M 4) (M 0 9) 320 0 st0).1 ∧ MM 0 10 = 0 ∧ MM 0 9 = 0 ∧ pg MM 0 = gpg g ∧ MM 0 22 = 0 ∧ MM 10 0 = 0 ∧ MM 10 1 = 0 ∧ ∀ (q : Nat) (j : Int), ¬ (Scell q j ∨ (q = 0 ∧ (j = 1 ∨ j = 9 ∨ j = 10 ∨ j = 22)) ∨ (q = 1 ∧ 0 ≤ j ∧ j < 47) ∨ q = 10) → MM q j = M q j
theorem ClR.bad {M M2 MM : Mem} {y : PX} (h : ClR M M2 (closeX (M 0 9) y)) (hr : (runX (M 4) (M 0 9) 320 0 st0).2 = y) (h0 : M2 0 11 ≠ 0) (e10 : MM 0 10 = M2 0 11) (e9 : MM 0 9 = 0) (hf : ∀ (q : Nat) (j : Int), ¬ (q = 0 ∧ (j = 9 ∨ j = 10)) → MM q j = M2 q j) : textR M (-10 - M2 0 12) MM := by
  unfold textR
  rw [hr]
  cases e : closeX (M 0 9) y with
  | inl a =>
    rw [e] at h
    obtain ⟨b1, b2, b3, b4, b5, b6⟩ := h.2
    exact ⟨by rw [b4], by rw [e10, b1], b2, b3, e9, fun q j hq => by rw [hf q j (fun z => hq (Or.inr z))]; exact h.1.1 q j (fun z => hq (Or.inl z))⟩
  | inr g => rw [e] at h; exact absurd h.2.1 h0
theorem ClR.good {M M2 MM : Mem} {y : PX} {n : Int} (h : ClR M M2 (closeX (M 0 9) y)) (hr : (runX (M 4) (M 0 9) 320 0 st0).2 = y) (hn : ∀ g, y = .inr g → (runX (M 4) (M 0 9) 320 0 st0).1 = n) (h0 : M2 0 11 = 0) (e10 : MM 0 10 = 0) (e9 : MM 0 9 = 0) (e22 : MM 0 22 = 0) (k0 : MM 10 0 = 0) (k1 : MM 10 1 = 0) (e1 : MM 0 1 = M2 0 3) (hp : ∀ j, 0 ≤ j → j < 47 → MM 1 j = if j = 27 then (if M2 0 4 = -4 then M2 0 3 / 2 else M2 0 4) - 2 else M2 2 j) (hf : ∀ (q : Nat) (j : Int), ¬ (Scell q j ∨ (q = 0 ∧ (j = 1 ∨ j = 9 ∨ j = 10 ∨ j = 22)) ∨ (q = 1 ∧ 0 ≤ j ∧ j < 47) ∨ q = 10) → MM q j = M2 q j) : textR M n MM := by
  unfold textR
  rw [hr]
  cases e : closeX (M 0 9) y with
  | inl a => rw [e] at h; have h1 := h.2.1; have h2 := h.2.2.1; omega
  | inr g =>
    rw [e] at h
    have hy : ∃ g0, y = .inr g0 := by
      cases y with
      | inl a => cases e
      | inr g0 => exact ⟨g0, rfl⟩
    obtain ⟨g0, hy⟩ := hy
    refine ⟨(hn g0 hy).symm, e10, e9, ?_, e22, k0, k1, fun q j hq => by rw [hf q j hq]; exact h.1.1 q j (fun z => hq (Or.inl z))⟩
    rw [h.2.2]
    funext i
    show pgV (MM 0 1) (MM 1 (0 + i)) i = setF (rpg M2) 27 _ i
    rw [Int.zero_add, e1]
    unfold setF
    by_cases b : 0 ≤ i ∧ i < 47
    · rw [hp i b.1 b.2]
      by_cases e27 : i = 27
      · subst e27; rw [if_pos rfl, if_pos rfl]
        show (if M2 0 4 = -4 then M2 0 3 / 2 else M2 0 4) - 2 + 2 = _
        omega
      · rw [if_neg e27, if_neg e27]
        unfold rpg
        rw [if_neg (by omega), if_neg e27]
        exact pgV_in (by omega)
    · by_cases e47 : i = 47
      · subst e47; rw [if_neg (by decide)]; rfl
      · rw [if_neg (by omega)]
        unfold rpg
        rw [if_neg e47, if_neg (by omega), pgV_out (by omega), pgV_out (by omega)]
