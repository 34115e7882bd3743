/-! both worlds agree -/
def RP (M S : Mem) : Prop := fld M 1 = pg S 0 ∧ InvF (fld M 1) ∧ fld M 1 46 ≤ 999
def RI (M S : Mem) : Prop := (S 10 0 = 0 ∨ S 10 0 = 1) ∧ (S 10 1 = 0 ∨ S 10 1 = 1) ∧ M 0 9 = S 10 0 + 2 * S 10 1 ∧ (S 10 0 = 1 → fld M 210 = pg S 47 ∧ InvF (fld M 210) ∧ fld M 210 46 ≤ 999 ∧ fld M 210 47 = fld M 1 47) ∧ (S 10 1 = 1 → fld M 218 = pg S 94 ∧ InvF (fld M 218) ∧ fld M 218 46 ≤ 999 ∧ fld M 218 47 = fld M 1 47)
def RT (M S : Mem) : Prop := toldI M ∧ M 207 2 = S 0 22 ∧ ∀ k, 0 ≤ k → k < M 207 2 → S 9 (2 * k) = M 208 k ∧ S 9 (2 * k + 1) = M 209 k
def RA (M S : Mem) : Prop := M 18 1 = S 0 9 ∧ (0 ≤ S 0 9 ∧ S 0 9 ≤ 320) ∧ tb M = S 4
def RS (M S : Mem) : Prop := ∀ k : Int, 0 ≤ k → k < 4 → M (227 + 2 * k.toNat) 0 = lnR S k ∧ M (227 + 2 * k.toNat) 1 = S 12 k ∧ (∀ j, 0 ≤ j → j < 40 → M (227 + 2 * k.toNat + 1) j = S 13 (40 * k + j)) ∧ (S 11 k = -4 ∨ (0 ≤ S 11 k ∧ S 11 k ≤ 2)) ∧ (0 ≤ S 12 k ∧ S 12 k ≤ 40) ∧ ∀ j, 0 ≤ j → j < 40 → in32 (S 13 (40 * k + j))
def RF (M S : Mem) : Prop := M 17 4 = S 0 10 ∧ M 0 11 = S 0 27
def RC (S : Mem) : Prop := (∀ i, 0 ≤ i → i < 15 → S 5 i = cutI i) ∧ ∀ i, 0 ≤ i → i < 64 → S 6 i = letT i
def RR (M S : Mem) : Prop := RP M S ∧ RI M S ∧ RT M S ∧ RA M S ∧ RS M S ∧ RF M S ∧ RC S
theorem pg_of {S S' : Mem} {p : Int} (h1 : S' 0 1 = S 0 1) (h : ∀ j, p ≤ j → j < p + 47 → S' 1 j = S 1 j) : pg S' p = pg S p := pg_eq h1 (fun j a b => h _ (by omega) (by omega))
theorem fld_of {M M' : Mem} {o : Nat} (h : ∀ (q : Nat) (j : Int), o ≤ q → q < o + 8 → M' q j = M q j) : fld M' o = fld M o := fld_eq8 (fun q a b => funext fun j => h q j a b)
theorem RI.frame {M S M' S' : Mem} (h : RI M S) (h9 : M' 0 9 = M 0 9) (hi : ∀ (q : Nat) (j : Int), 210 ≤ q → q < 226 → M' q j = M q j) (hc : fld M' 1 47 = fld M 1 47) (h1 : S' 0 1 = S 0 1) (h10 : ∀ j, S' 10 j = S 10 j) (hp : ∀ j, 47 ≤ j → j < 141 → S' 1 j = S 1 j) : RI M' S' := by
  obtain ⟨a, b, c, d, e⟩ := h
  unfold RI
  rw [h10, h10, h9, fld_of (M := M) (M' := M') (o := 210) (fun q j x y => hi q j (by omega) (by omega)), fld_of (M := M) (M' := M') (o := 218) (fun q j x y => hi q j (by omega) (by omega)), hc, pg_of (p := 47) h1 (fun j x y => hp j (by omega) (by omega)), pg_of (p := 94) h1 (fun j x y => hp j (by omega) (by omega))]
  exact ⟨a, b, c, d, e⟩
theorem RT.frame {M S M' S' : Mem} (h : RT M S) (hM : ∀ (q : Nat) (j : Int), 207 ≤ q → q ≤ 209 → M' q j = M q j) (h22 : S' 0 22 = S 0 22) (h9 : ∀ j, S' 9 j = S 9 j) : RT M' S' := by
  obtain ⟨a, b, c⟩ := h
  have e7 : M' 207 = M 207 := funext fun j => hM 207 j (by omega) (by omega)
  have e8 : M' 208 = M 208 := funext fun j => hM 208 j (by omega) (by omega)
  have e9 : M' 209 = M 209 := funext fun j => hM 209 j (by omega) (by omega)
  unfold RT toldI
  rw [e7, e8, e9, h22]
  exact ⟨a, b, fun k x y => by rw [h9, h9]; exact c k x y⟩
theorem RA.frame {M S M' S' : Mem} (h : RA M S) (h18 : M' 18 1 = M 18 1) (h19 : ∀ j, M' 19 j = M 19 j) (h9 : S' 0 9 = S 0 9) (h4 : ∀ j, S' 4 j = S 4 j) : RA M' S' := by
  obtain ⟨a, b, c⟩ := h
  unfold RA
  rw [h18, h9]
  refine ⟨a, b, ?_⟩
  funext j
  rw [h4, ← c]
  show band (M' 19 j) 255 = band (M 19 j) 255
  rw [h19]
theorem RS.frame {M S M' S' : Mem} (h : RS M S) (hM : ∀ (q : Nat) (j : Int), 227 ≤ q → q ≤ 234 → M' q j = M q j) (hS : ∀ (q : Nat) (j : Int), 11 ≤ q → q ≤ 13 → S' q j = S q j) : RS M' S' := by
  intro k k0 k1
  obtain ⟨a, b, c, d, e, f⟩ := h k k0 k1
  unfold lnR at a ⊢
  refine ⟨by rw [hM _ _ (by omega) (by omega), hS 11 k (by omega) (by omega)]; exact a, by rw [hM _ _ (by omega) (by omega), hS 12 k (by omega) (by omega)]; exact b, fun j x y => by rw [hM _ _ (by omega) (by omega), hS 13 _ (by omega) (by omega)]; exact c j x y, by rw [hS 11 k (by omega) (by omega)]; exact d, by rw [hS 12 k (by omega) (by omega)]; exact e, fun j x y => by rw [hS 13 _ (by omega) (by omega)]; exact f j x y⟩
theorem RF.frame {M S M' S' : Mem} (h : RF M S) (h1 : M' 17 4 = M 17 4) (h2 : M' 0 11 = M 0 11) (h3 : S' 0 10 = S 0 10) (h4 : S' 0 27 = S 0 27) : RF M' S' := by unfold RF; rw [h1, h2, h3, h4]; exact h
theorem RC.frame {S S' : Mem} (h : RC S) (h5 : ∀ j, S' 5 j = S 5 j) (h6 : ∀ j, S' 6 j = S 6 j) : RC S' := ⟨fun i a b => by rw [h5]; exact h.1 i a b, fun i a b => by rw [h6]; exact h.2 i a b⟩
theorem RP.frame {M S M' S' : Mem} (h : RP M S) (hM : ∀ (q : Nat) (j : Int), 1 ≤ q → q ≤ 8 → M' q j = M q j) (h1 : S' 0 1 = S 0 1) (hS : ∀ j, 0 ≤ j → j < 47 → S' 1 j = S 1 j) : RP M' S' := by
  unfold RP
  rw [fld_of (M := M) (M' := M') (o := 1) (fun q j x y => hM q j (by omega) (by omega)), pg_of (p := 0) h1 (fun j x y => hS j x (by omega))]
  exact h
/-- what both share is as it was -/
theorem RR.scr {M S M' S' : Mem} (h : RR M S) (hM : ∀ (q : Nat) (j : Int), (q ≤ 8 ∨ (17 ≤ q ∧ q ≤ 19) ∨ 207 ≤ q) → M' q j = M q j) (hS : ∀ (q : Nat) (j : Int), q ≠ 7 → q ≠ 8 → (q = 1 → j < 141) → S' q j = S q j) : RR M' S' := by
  obtain ⟨a, b, c, d, e, f, g⟩ := h
  refine ⟨a.frame (fun q j x y => hM q j (by omega)) (hS 0 1 (by omega) (by omega) (by omega)) (fun j x y => hS 1 j (by omega) (by omega) (by omega)), b.frame (hM 0 9 (by omega)) (fun q j x y => hM q j (by omega)) ?_ (hS 0 1 (by omega) (by omega) (by omega)) (fun j => hS 10 j (by omega) (by omega) (by omega)) (fun j x y => hS 1 j (by omega) (by omega) (by omega)), c.frame (fun q j x y => hM q j (by omega)) (hS 0 22 (by omega) (by omega) (by omega)) (fun j => hS 9 j (by omega) (by omega) (by omega)), d.frame (hM 18 1 (by omega)) (fun j => hM 19 j (by omega)) (hS 0 9 (by omega) (by omega) (by omega)) (fun j => hS 4 j (by omega) (by omega) (by omega)), e.frame (fun q j x y => hM q j (by omega)) (fun q j x y => hS q j (by omega) (by omega) (by omega)), f.frame (hM 17 4 (by omega)) (hM 0 11 (by omega)) (hS 0 10 (by omega) (by omega) (by omega)) (hS 0 27 (by omega) (by omega) (by omega)), g.frame (fun j => hS 5 j (by omega) (by omega) (by omega)) (fun j => hS 6 j (by omega) (by omega) (by omega))⟩
  show M' 1 0 = M 1 0
  exact hM 1 0 (by omega)
theorem RR.scrS {M S M' S' : Mem} {o n : Nat} (h : RR M S) (hM : Same M M' o n) (ho : (9 ≤ o ∧ o + n ≤ 17) ∨ (20 ≤ o ∧ o + n ≤ 207)) (hS : SameS S S' 188) : RR M' S' :=
  h.scr (fun q j hq => by rw [hM q (by omega)]) (fun q j _ _ hj => by by_cases e : q = 1; subst e; exact hS.2 j (by have := hj rfl; omega); rw [hS.1 q e])
/-- another page now -/
theorem RR.page {M S M' S' : Mem} {f : Int → Int} (h : RR M S) (hM : ∀ (q : Nat) (j : Int), (q = 0 ∨ (17 ≤ q ∧ q ≤ 19) ∨ 207 ≤ q) → M' q j = M q j) (hS : ∀ (q : Nat) (j : Int), (q = 1 → 47 ≤ j ∧ j < 141) → S' q j = S q j) (h1 : fld M' 1 = f) (h2 : pg S' 0 = f) (hi : InvF f) (hm : f 46 ≤ 999) (hc : f 47 = fld M 1 47) : RR M' S' := by
  obtain ⟨a, b, c, d, e, g, k⟩ := h
  exact ⟨⟨by rw [h1, h2], by rw [h1]; exact hi, by rw [h1]; exact hm⟩, b.frame (hM 0 9 (by omega)) (fun q j x y => hM q j (by omega)) (by rw [h1]; exact hc) (hS 0 1 (by omega)) (fun j => hS 10 j (by omega)) (fun j x y => hS 1 j (by omega)), c.frame (fun q j x y => hM q j (by omega)) (hS 0 22 (by omega)) (fun j => hS 9 j (by omega)), d.frame (hM 18 1 (by omega)) (fun j => hM 19 j (by omega)) (hS 0 9 (by omega)) (fun j => hS 4 j (by omega)), e.frame (fun q j x y => hM q j (by omega)) (fun q j x y => hS q j (by omega)), g.frame (hM 17 4 (by omega)) (hM 0 11 (by omega)) (hS 0 10 (by omega)) (hS 0 27 (by omega)), k.frame (fun j => hS 5 j (by omega)) (fun j => hS 6 j (by omega))⟩
theorem RR.pageS {M S M' S' : Mem} {f : Int → Int} (h : RR M S) (hM : Same M M' 1 8) (hS : SameS S S' 0) (h1 : fld M' 1 = f) (h2 : pg S' 0 = f) (hi : InvF f) (hm : f 46 ≤ 999) (hc : f 47 = fld M 1 47) : RR M' S' :=
  h.page (fun q j hq => by rw [hM q (by omega)]) (fun q j hj => by by_cases e : q = 1; subst e; exact hS.2 j (by have := hj rfl; omega); rw [hS.1 q e]) h1 h2 hi hm hc
theorem RR.inv {M S : Mem} (h : RR M S) : InvF (pg S 0) ∧ pg S 0 46 ≤ 999 := by rw [← h.1.1]; exact h.1.2
theorem RR.told {M S : Mem} (h : RR M S) : toldR S := by
  obtain ⟨⟨a, b⟩, c, d⟩ := h.2.2.1
  refine ⟨by rw [← c]; exact a, fun k k0 k1 => ?_⟩
  rw [← c] at k1
  rw [(d k k0 k1).1, (d k k0 k1).2]
  exact b k k0 k1
theorem RR.shr {M S : Mem} (h : RR M S) : shR S := fun k a b => (h.2.2.2.2.1 k a b).2.2.2
theorem RR.tapeB {M S : Mem} (h : RR M S) : ∀ i, 0 ≤ S 4 i ∧ S 4 i ≤ 255 := fun i => by rw [← h.2.2.2.1.2.2]; exact tb_rng M i
theorem RR.KI {M S : Mem} (h : RR M S) : KI M := by
  obtain ⟨a, ⟨b1, b2, b3, b4, b5⟩, c, d, e, f, g⟩ := h
  have shi : ∀ k : Int, 0 ≤ k → k < 4 → shI M (227 + 2 * k.toNat) := by
    intro k k0 k1
    obtain ⟨q1, q2, q3, q4, q5, q6⟩ := e k k0 k1
    refine ⟨by rw [q1]; unfold lnR; split <;> omega, by rw [q2]; exact q5, fun j j0 j1 => by rw [q3 j j0 j1]; exact q6 j j0 j1⟩
  refine ⟨a.2, c.1, by omega, ⟨fun q => ?_, fun q => ?_⟩, ⟨shi 0 (by decide) (by decide), shi 1 (by decide) (by decide), shi 2 (by decide) (by decide), shi 3 (by decide) (by decide)⟩, by rw [d.1]; exact d.2.1⟩
  · exact (b4 (by omega)).2
  · exact (b5 (by omega)).2
