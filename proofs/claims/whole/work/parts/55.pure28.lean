/-! the reference's reading of a text -/
def Scell (q : Nat) (j : Int) : Prop := (q = 0 ∧ (j = 3 ∨ j = 4 ∨ j = 5 ∨ j = 7 ∨ (11 ≤ j ∧ j ≤ 16))) ∨ q = 2 ∨ q = 3
def rpg (M : Mem) : Int → Int := fun i => if i = 47 then M 0 3 else if i = 27 then (if M 0 4 = -4 then -1 else M 0 4) else pgV 0 (M 2 i) i
def cutL : List Int := [0, 5, 9, 14, 19, 22, 26, 31, 35, 40, 43, 47, 53, 57, 64]
def letL : List Int := [99, 101, 108, 108, 115, 114, 111, 111, 109, 115, 108, 111, 112, 101, 104, 101, 100, 103, 101, 107, 101, 103, 115, 105, 100, 101, 102, 111, 111, 108, 115, 114, 101, 115, 116, 98, 114, 101, 97, 107, 97, 108, 108, 104, 97, 108, 102, 115, 116, 101, 97, 100, 121, 108, 97, 116, 101, 102, 111, 108, 108, 111, 119, 115]
def cutI (i : Int) : Int := cutL.getD i.toNat 0
def letT (i : Int) : Int := letL.getD i.toNat 0
def RgA (M0 M : Mem) : Prop := (∀ (q : Nat) (j : Int), ¬ Scell q j → M q j = M0 q j) ∧ (-1 ≤ M 0 7 ∧ M 0 7 ≤ 8) ∧ (0 ≤ M 0 5 ∧ M 0 5 ≤ 511) ∧ (∀ l, 0 ≤ l → l < 9 → 0 ≤ M 3 l ∧ M 3 l ≤ 511) ∧ (3 ≤ M 0 3 ∧ M 0 3 ≤ 9) ∧ (M 0 4 = -4 ∨ (0 ≤ M 0 4 ∧ M 0 4 ≤ 8)) ∧ (0 ≤ M0 0 9 ∧ M0 0 9 ≤ 320) ∧ (∀ i, 0 ≤ M0 4 i ∧ M0 4 i ≤ 255) ∧ (∀ i, 0 ≤ i → i < 15 → M0 5 i = cutI i) ∧ (∀ i, 0 ≤ i → i < 64 → M0 6 i = letT i)
def RgT (M0 M : Mem) : Prop := (0 ≤ M 0 14 ∧ M 0 14 ≤ M 0 13 ∧ M 0 13 ≤ M0 0 9) ∧ (0 ≤ M 0 15 ∧ M 0 15 ≤ 3) ∧ (0 ≤ M 0 16 ∧ M 0 16 ≤ 99)
def DdR (M : Mem) (far : Int) (sn : Int → Int → Bool) (pf : Int → Int) : Prop := (M 0 7 = far ∨ (M 0 7 = -1 ∧ far = 0)) ∧ (∀ l, (l = 0 ∨ l = 4 ∨ l = 7 ∨ l = 8) → bitB (M 0 5) l = sn l 0) ∧ (∀ l b, (l = 1 ∨ l = 2 ∨ l = 3 ∨ l = 5 ∨ l = 6) → 0 ≤ b → b < 9 → bitB (M 3 l) b = sn l b) ∧ rpg M = pf
def BrR (M : Mem) (a : Int × Int) : Prop := M 0 11 = a.1 ∧ 1 ≤ a.1 ∧ a.1 ≤ 5 ∧ M 0 12 = a.2 ∧ 0 ≤ a.2 ∧ a.2 ≤ 320
/-- before the next token -/
def Sn (M0 M : Mem) (x : PX) : Prop := RgA M0 M ∧ (match x with
  | .inl a => BrR M a ∧ RgT M0 M
  | .inr g => M 0 11 = 0 ∧ M 0 13 = gpos g ∧ 0 ≤ gpos g ∧ gpos g ≤ M0 0 9 ∧ DdR M (gfar g) (gsn g) (gpg g))
/-- with a token read ahead -/
def TkR (t : Int → Int) (len : Int) (M : Mem) (g : PSt) : Prop := M 0 13 = gpos g ∧ M 0 14 = tokS t len (glp g) ∧ M 0 13 = tokN t len (glp g) ∧ M 0 15 = tokK t len (glp g) ∧ tokK t len (glp g) ≠ 4 ∧ (tokK t len (glp g) = 2 → M 0 16 = tokV t len (glp g)) ∧ 0 ≤ glp g ∧ glp g ≤ len
def Sk (M0 M : Mem) (y : PX) : Prop := RgA M0 M ∧ RgT M0 M ∧ (match y with
  | .inl a => BrR M a
  | .inr g => M 0 11 = 0 ∧ TkR (M0 4) (M0 0 9) M g ∧ DdR M (gfar g) (gsn g) (gpg g))
def stepP (M MM : Mem) : Prop := (M 0 11 ≠ 0 ∧ MM = M) ∨ (M 0 11 = 0 ∧ MM 0 14 = tokS (M 4) (M 0 9) (M 0 13) ∧ MM 0 13 = tokN (M 4) (M 0 9) (M 0 13) ∧ (tokK (M 4) (M 0 9) (M 0 13) ≠ 4 → MM 0 11 = 0 ∧ MM 0 15 = tokK (M 4) (M 0 9) (M 0 13)) ∧ (tokK (M 4) (M 0 9) (M 0 13) = 4 → MM 0 11 = 1 ∧ MM 0 12 = tokS (M 4) (M 0 9) (M 0 13)) ∧ (tokK (M 4) (M 0 9) (M 0 13) = 2 → MM 0 16 = tokV (M 4) (M 0 9) (M 0 13)) ∧ (0 ≤ MM 0 15 ∧ MM 0 15 ≤ 3) ∧ (0 ≤ MM 0 16 ∧ MM 0 16 ≤ 99) ∧ ∀ (q : Nat) (j : Int), ¬ (q = 0 ∧ 11 ≤ j ∧ j ≤ 16) → MM q j = M q j)
theorem DdR.same {M M' : Mem} {far : Int} {sn : Int → Int → Bool} {pf : Int → Int} (h : DdR M far sn pf) (hf : ∀ (q : Nat) (j : Int), ¬ (q = 0 ∧ 11 ≤ j ∧ j ≤ 16) → M' q j = M q j) : DdR M' far sn pf := by
  obtain ⟨a, b, c, d⟩ := h
  refine ⟨by rw [hf 0 7 (by omega)]; exact a, fun l hl => by rw [hf 0 5 (by omega)]; exact b l hl, fun l k hl h1 h2 => by rw [hf 3 l (by omega)]; exact c l k hl h1 h2, ?_⟩
  rw [← d]
  funext i
  unfold rpg
  rw [hf 0 3 (by omega), hf 0 4 (by omega), hf 2 i (by omega)]
theorem RgA.same {M0 M M' : Mem} (h : RgA M0 M) (hf : ∀ (q : Nat) (j : Int), ¬ (q = 0 ∧ 11 ≤ j ∧ j ≤ 16) → M' q j = M q j) : RgA M0 M' := by
  obtain ⟨a, b, c, d, e, f, r⟩ := h
  refine ⟨fun q j hq => ?_, by rw [hf 0 7 (by omega)]; exact b, by rw [hf 0 5 (by omega)]; exact c, fun l h1 h2 => by rw [hf 3 l (by omega)]; exact d l h1 h2, by rw [hf 0 3 (by omega)]; exact e, by rw [hf 0 4 (by omega)]; exact f, r⟩
  rw [hf q j (fun z => hq (by unfold Scell; omega))]
  exact a q j hq
theorem RgA.t {M0 M : Mem} (h : RgA M0 M) : M 4 = M0 4 ∧ M 0 9 = M0 0 9 := ⟨by funext i; exact h.1 4 i (by unfold Scell; omega), h.1 0 9 (by unfold Scell; omega)⟩
theorem Sn.step {M0 M MM : Mem} {x : PX} (h : Sn M0 M x) (hs : stepP M MM) : Sk M0 MM (nextX (M0 4) (M0 0 9) x) := by
  obtain ⟨ha, hx⟩ := h
  obtain ⟨e4, e9⟩ := ha.t
  cases x with
  | inl a =>
    obtain ⟨hb, ht⟩ := hx
    have h0 : M 0 11 ≠ 0 := by have h1 := hb.1; have h2 := hb.2.1; omega
    rcases hs with ⟨-, rfl⟩ | ⟨z, -⟩
    · exact ⟨ha, ht, hb⟩
    · exact absurd z h0
  | inr g =>
    obtain ⟨h0, h13, p0, p1, hd⟩ := hx
    rcases hs with ⟨z, -⟩ | ⟨-, s14, s13, s11, s4, s2, s15, s16, hf⟩
    · exact absurd h0 z
    rw [e4, e9, h13] at s14 s13 s11 s4 s2
    have hS := tokS_rng (t := M0 4) (len := M0 0 9) (n := gpos g) p1
    have hN := tokN_rng (t := M0 4) (len := M0 0 9) (n := gpos g) ha.2.2.2.2.2.2.2.1 p0 p1
    have hT : RgT M0 MM := ⟨⟨by rw [s14]; omega, by rw [s14, s13]; exact hN.1, by rw [s13]; exact hN.2⟩, s15, s16⟩
    refine ⟨ha.same hf, hT, ?_⟩
    by_cases k4 : tokK (M0 4) (M0 0 9) (gpos g) = 4
    · rw [nextX_4 k4]
      have q := s4 k4
      have hl := ha.2.2.2.2.2.2.1
      have hS0 : 0 ≤ tokS (M0 4) (M0 0 9) (gpos g) ∧ tokS (M0 4) (M0 0 9) (gpos g) ≤ 320 := by omega
      exact ⟨q.1, (show (1 : Int) ≤ 1 by decide), (show (1 : Int) ≤ 5 by decide), q.2, hS0.1, hS0.2⟩
    · rw [nextX_n k4]
      have q := s11 k4
      exact ⟨q.1, ⟨s13, s14, s13, q.2, k4, s2, p0, p1⟩, hd.same hf⟩
theorem Sk.n {M0 M : Mem} {y : PX} (h : Sk M0 M y) : Sn M0 M y := by
  obtain ⟨ha, ht, hy⟩ := h
  cases y with
  | inl a => exact ⟨ha, hy, ht⟩
  | inr g =>
    obtain ⟨h0, hk, hd⟩ := hy
    exact ⟨ha, h0, hk.1, by rw [← hk.1]; have := ht.1; omega, by rw [← hk.1]; exact ht.1.2.2, hd⟩
theorem Sk.f {M0 M : Mem} {y : PX} (h : Sk M0 M y) : 0 ≤ M 0 11 ∧ M 0 11 ≤ 5 := by
  obtain ⟨ha, ht, hy⟩ := h
  cases y with
  | inl a => have h1 := hy.1; have h2 := hy.2.1; have h3 := hy.2.2.1; omega
  | inr g => have := hy.1; omega
theorem Sn.f {M0 M : Mem} {y : PX} (h : Sn M0 M y) : (0 ≤ M 0 11 ∧ M 0 11 ≤ 5) ∧ (M 0 11 = 0 → 0 ≤ M 0 13 ∧ M 0 13 ≤ M 0 9) ∧ (0 ≤ M 0 9 ∧ M 0 9 ≤ 320) ∧ ∀ i, 0 ≤ M 4 i ∧ M 4 i ≤ 255 := by
  obtain ⟨ha, hy⟩ := h
  obtain ⟨e4, e9⟩ := ha.t
  rw [e4, e9]
  refine ⟨?_, ?_, ha.2.2.2.2.2.2.1, ha.2.2.2.2.2.2.2.1⟩
  · cases y with
    | inl a => have h1 := hy.1.1; have h2 := hy.1.2.1; have h3 := hy.1.2.2.1; omega
    | inr g => have := hy.1; omega
  · intro h0
    cases y with
    | inl a => have h1 := hy.1.1; have h2 := hy.1.2.1; omega
    | inr g => rw [hy.2.1]; exact ⟨hy.2.2.1, hy.2.2.2.1⟩
theorem Sk.of0 {M0 M : Mem} {y : PX} (h : Sk M0 M y) (h0 : M 0 11 = 0) : ∃ g, y = .inr g := by
  cases y with
  | inl a => have h1 := h.2.2.1; have h2 := h.2.2.2.1; omega
  | inr g => exact ⟨g, rfl⟩
theorem Sk.of1 {M0 M : Mem} {y : PX} (h : Sk M0 M y) (h0 : M 0 11 ≠ 0) : ∃ a, y = .inl a := by
  cases y with
  | inl a => exact ⟨a, rfl⟩
  | inr g => exact absurd h.2.2.1 h0
/-- a fault where the token is that was read ahead -/
def failP (M MM : Mem) (f : Int) : Prop := (M 0 11 = 0 ∧ MM = upd2 (upd2 M 0 11 f) 0 12 (M 0 14)) ∨ (M 0 11 ≠ 0 ∧ MM = M)
theorem Sk.fail {M0 M MM : Mem} {y : PX} {f : Int} (h : Sk M0 M y) (hf : 1 ≤ f ∧ f ≤ 5) (hp : failP M MM f) : Sk M0 MM (refX (M0 4) (M0 0 9) f y) := by
  rcases hp with ⟨h0, rfl⟩ | ⟨h0, rfl⟩
  · obtain ⟨g, rfl⟩ := h.of0 h0
    obtain ⟨ha, ht, -, hk, hd⟩ := h
    have hfr : ∀ (q : Nat) (j : Int), ¬ (q = 0 ∧ 11 ≤ j ∧ j ≤ 16) → (upd2 (upd2 M 0 11 f) 0 12 (M 0 14)) q j = M q j := fun q j hq => by rw [upd2_at, if_neg (by omega), upd2_at, if_neg (by omega)]
    have e : ∀ j : Int, 13 ≤ j → (upd2 (upd2 M 0 11 f) 0 12 (M 0 14)) 0 j = M 0 j := fun j hj => by rw [upd2_ne2 (by omega), upd2_ne2 (by omega)]
    refine ⟨ha.same hfr, by unfold RgT; rw [e 14 (by decide), e 13 (by decide), e 15 (by decide), e 16 (by decide)]; exact ht, ?_, hf.1, hf.2, ?_, ?_, ?_⟩
    · rw [upd2_ne2 (by decide), upd2_eq]
    · rw [upd2_eq]; exact hk.2.1
    · show 0 ≤ tokS _ _ _; rw [← hk.2.1]; exact ht.1.1
    · show tokS _ _ _ ≤ 320; rw [← hk.2.1]; have h1 := ht.1; have h2 := ha.2.2.2.2.2.2.1; omega
  · obtain ⟨a, rfl⟩ := h.of1 h0
    exact h
theorem tokV_two {t : Int → Int} {len s0 k v : Int} (hv : 0 ≤ v ∧ v ≤ 99 ∧ ((k = s0 ∧ v = 0) ∨ (k = s0 + 1 ∧ v = t s0 - 48 ∧ 0 ≤ v ∧ v ≤ 9) ∨ (s0 + 2 ≤ k ∧ v = (t s0 - 48) * 10 + t (s0 + 1) - 48))) (hk : s0 < k ∧ k ≤ s0 + 2) (h0 : 0 ≤ s0) (h1 : k ≤ len) : v = if k - s0 = 1 then byteF t len s0 - 48 else (byteF t len s0 - 48) * 10 + byteF t len (s0 + 1) - 48 := by
  by_cases e : k - s0 = 1
  · rw [if_pos e, byteF_in (by omega)]; omega
  · rw [if_neg e, byteF_in (by omega), byteF_in (by omega)]; omega
