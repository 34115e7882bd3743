/-! the reference's rows, told as fields are told -/
def pgV (c v : Int) (i : Int) : Int := if i = 47 then c else if i = 27 ∨ i = 44 then v + 2 else if i < 0 ∨ 48 ≤ i then 0 else if i < 27 then (if i % 3 = 0 then 12 - v else if i % 3 = 1 then v + 3 else v) else v
def pg (M : Mem) (p : Int) : Int → Int := fun i => pgV (M 0 1) (M 1 (p + i)) i
theorem pgV_c47 (c v : Int) : pgV c v 47 = c := rfl
theorem pgV_out {c v i : Int} (h : i < 0 ∨ 48 ≤ i) : pgV c v i = 0 := by
  unfold pgV
  rw [if_neg (by omega), if_neg (by omega), if_pos h]
theorem pgV_in {c c' v i : Int} (h : i ≠ 47) : pgV c v i = pgV c' v i := by
  unfold pgV
  rw [if_neg h, if_neg h]
theorem pg_47 (M : Mem) (p : Int) : pg M p 47 = M 0 1 := rfl
theorem pg_27 (M : Mem) (p : Int) : pg M p 27 = M 1 (p + 27) + 2 := rfl
theorem pg_44 (M : Mem) (p : Int) : pg M p 44 = M 1 (p + 44) + 2 := rfl
theorem pg_45 (M : Mem) (p : Int) : pg M p 45 = M 1 (p + 45) := rfl
theorem pg_46 (M : Mem) (p : Int) : pg M p 46 = M 1 (p + 46) := rfl
theorem pg_r (M : Mem) (p : Int) {i : Int} (h : 0 ≤ i ∧ i < 9) : pg M p (3 * i) = 12 - M 1 (p + 3 * i) := by
  unfold pg pgV
  rw [if_neg (by omega), if_neg (by omega), if_neg (by omega), if_pos (by omega), if_pos (by omega)]
theorem pg_l (M : Mem) (p : Int) {i : Int} (h : 0 ≤ i ∧ i < 9) : pg M p (3 * i + 1) = M 1 (p + 3 * i + 1) + 3 := by
  unfold pg pgV
  rw [if_neg (by omega), if_neg (by omega), if_neg (by omega), if_pos (by omega), if_neg (by omega), if_pos (by omega), show p + (3 * i + 1) = p + 3 * i + 1 by omega]
theorem pg_h (M : Mem) (p : Int) {i : Int} (h : 0 ≤ i ∧ i < 9) : pg M p (3 * i + 2) = M 1 (p + 3 * i + 2) := by
  unfold pg pgV
  rw [if_neg (by omega), if_neg (by omega), if_neg (by omega), if_pos (by omega), if_neg (by omega), if_neg (by omega), show p + (3 * i + 2) = p + 3 * i + 2 by omega]
theorem pg_out (M : Mem) (p : Int) {i : Int} (h : i < 0 ∨ 48 ≤ i) : pg M p i = 0 := by
  unfold pg pgV
  rw [if_neg (by omega), if_neg (by omega), if_pos h]
theorem pg_s (M : Mem) (p : Int) {s j : Int} (hs : s = 0 ∨ s = 1) (h : 0 ≤ j ∧ j < 8) : sdF (pg M p) s j = M 1 (p + 28 + 8 * s + j) := by
  unfold sdF
  rw [if_pos h]
  unfold pg pgV
  rw [if_neg (by omega), if_neg (by omega), if_neg (by omega), if_neg (by omega), show p + (28 + 8 * s + j) = p + 28 + 8 * s + j by omega]
/-- all but a page is as it was -/
def SameS (M M' : Mem) (p : Int) : Prop := (∀ k : Nat, k ≠ 1 → M' k = M k) ∧ ∀ j : Int, j < p ∨ p + 47 ≤ j → M' 1 j = M 1 j
theorem SameS.rf {M : Mem} {p : Int} : SameS M M p := ⟨fun _ _ => rfl, fun _ _ => rfl⟩
theorem SameS.trans {M M1 M2 : Mem} {p : Int} (h : SameS M M1 p) (h2 : SameS M1 M2 p) : SameS M M2 p := ⟨fun k hk => (h2.1 k hk).trans (h.1 k hk), fun j hj => (h2.2 j hj).trans (h.2 j hj)⟩
theorem SameS.up {M M1 : Mem} {p x v : Int} (h : SameS M M1 p) (hx : p ≤ x ∧ x < p + 47) : SameS M (upd2 M1 1 x v) p := ⟨fun k hk => (upd2_ne1 hk).trans (h.1 k hk), fun j hj => (upd2_ne2 (by omega)).trans (h.2 j hj)⟩
theorem pg_eq {M M' : Mem} {q q' : Int} (h0 : M' 0 1 = M 0 1) (h : ∀ j, 0 ≤ j → j < 47 → M' 1 (q' + j) = M 1 (q + j)) : pg M' q' = pg M q := by
  funext i
  unfold pg
  rw [h0]
  by_cases e : 0 ≤ i ∧ i < 47
  · rw [h i e.1 e.2]
  · by_cases e2 : i = 47
    · subst e2; rw [pgV_c47, pgV_c47]
    · rw [pgV_out (by omega), pgV_out (by omega)]
theorem pg_same {M M' : Mem} {p q : Int} (h : SameS M M' p) (hq : q + 47 ≤ p ∨ p + 47 ≤ q) : pg M' q = pg M q := pg_eq (congrFun (h.1 0 (by decide)) 1) (fun j h1 h2 => h.2 _ (by omega))
theorem pg_put (M : Mem) {p i x v w : Int} (hi : 0 ≤ i ∧ i < 47) (hx : x = p + i) (hw : w = pgV 0 v i) : pg (upd2 M 1 x v) p = setF (pg M p) i w := by
  subst hx hw
  funext j
  unfold setF
  by_cases e : j = i
  · subst e
    rw [if_pos rfl]
    unfold pg
    rw [upd2_eq, pgV_in (c' := 0) (by omega)]
  · rw [if_neg e]
    unfold pg
    rw [upd2_ne1 (by decide), upd2_ne2 (by omega)]
theorem pgV_27 (v : Int) : pgV 0 v 27 = v + 2 := rfl
theorem pgV_44 (v : Int) : pgV 0 v 44 = v + 2 := rfl
theorem pgV_raw {v i : Int} (h : 28 ≤ i ∧ i < 47 ∧ i ≠ 44) : pgV 0 v i = v := by
  unfold pgV
  rw [if_neg (by omega), if_neg (by omega), if_neg (by omega), if_neg (by omega)]
theorem pgV_r {v i : Int} (h : 0 ≤ i ∧ i < 9) : pgV 0 v (3 * i) = 12 - v := by
  unfold pgV
  rw [if_neg (by omega), if_neg (by omega), if_neg (by omega), if_pos (by omega), if_pos (by omega)]
theorem pgV_l {v i : Int} (h : 0 ≤ i ∧ i < 9) : pgV 0 v (3 * i + 1) = v + 3 := by
  unfold pgV
  rw [if_neg (by omega), if_neg (by omega), if_neg (by omega), if_pos (by omega), if_neg (by omega), if_pos (by omega)]
theorem pgV_h {v i : Int} (h : 0 ≤ i ∧ i < 9) : pgV 0 v (3 * i + 2) = v := by
  unfold pgV
  rw [if_neg (by omega), if_neg (by omega), if_neg (by omega), if_pos (by omega), if_neg (by omega), if_neg (by omega)]
theorem sdF_fn {f : Int → Int} {s : Int} {g : Int → Int} (h : ∀ j, 0 ≤ j → j < 8 → sdF f s j = g j) (ho : ∀ j, j < 0 ∨ 8 ≤ j → g j = 0) : sdF f s = g := by
  funext j
  by_cases e : 0 ≤ j ∧ j < 8
  · exact h j e.1 e.2
  · rw [ho j (by omega)]; unfold sdF; rw [if_neg e]
theorem sdF_o (f : Int → Int) (s : Int) {j : Int} (h : j < 0 ∨ 8 ≤ j) : sdF f s j = 0 := by
  unfold sdF
  rw [if_neg (by omega)]
/-- a minute on a page of rows -/
theorem pass_rows {M Ms M1 M2 M3 : Mem} {p x y w k : Int} (hp : 0 ≤ p) (hs : Ms = upd2 M 1 (p + 27) (k - 2)) (h1 : sdF (pg M1 p) 0 = tireS (sdF (pg Ms p) 0) x (pg Ms p 44)) (s1 : (∀ q : Nat, q ≠ 1 → M1 q = Ms q) ∧ ∀ j, (j < p + 28 ∨ p + 36 ≤ j) → M1 1 j = Ms 1 j) (h2 : sdF (pg M2 p) 1 = tireS (sdF (pg M1 p) 1) y (pg M1 p 44)) (s2 : (∀ q : Nat, q ≠ 1 → M2 q = M1 q) ∧ ∀ j, (j < p + 36 ∨ p + 44 ≤ j) → M2 1 j = M1 1 j) (h3 : M3 = upd2 M2 1 (p + 46) (M2 1 (p + 46) + 1)) (hk : k = kegF (pg M p) x y w) : pg M3 p = passF (pg M p) x y w ∧ SameS M M3 p := by
  have e0 : sdF (pg Ms p) 0 = sdF (pg M p) 0 := by rw [hs, pg_put M (i := 27) (by decide) rfl rfl, sdF_off (by decide) (by decide)]
  have e1 : sdF (pg M1 p) 1 = sdF (pg M p) 1 := by
    apply sdF_fn
    · intro j h1 h2
      rw [pg_s _ _ (Or.inr rfl) ⟨h1, h2⟩, pg_s _ _ (Or.inr rfl) ⟨h1, h2⟩, s1.2 _ (by omega), hs, upd2_ne2 (by omega)]
    · intro j hj
      exact sdF_o _ _ hj
  have e4 : pg Ms p 44 = pg M p 44 := by rw [pg_44, pg_44, hs, upd2_ne2 (by omega)]
  have e5 : pg M1 p 44 = pg M p 44 := by rw [pg_44, pg_44, s1.2 _ (by omega), hs, upd2_ne2 (by omega)]
  have r0 : ∀ j, (j < p + 28 ∨ p + 44 ≤ j) → j ≠ p + 46 → M3 1 j = Ms 1 j := by
    intro j q1 q2
    rw [h3, upd2_ne2 q2, s2.2 j (by omega), s1.2 j (by omega)]
  have rk : ∀ q : Nat, q ≠ 1 → M3 q = M q := by
    intro q hq
    rw [h3, upd2_ne1 hq, s2.1 q hq, s1.1 q hq, hs, upd2_ne1 hq]
  refine ⟨?_, rk, fun j hj => by rw [r0 j (by omega) (by omega), hs, upd2_ne2 (by omega)]⟩
  funext i
  by_cases i27 : i = 27
  · subst i27
    rw [pg_27, r0 _ (by omega) (by omega), hs, upd2_eq]
    show k - 2 + 2 = kegF (pg M p) x y w
    rw [← hk]; omega
  by_cases i46 : i = 46
  · subst i46
    rw [pg_46, h3, upd2_eq, s2.2 _ (by omega), s1.2 _ (by omega), hs, upd2_ne2 (by omega)]
    rfl
  by_cases a0 : 28 ≤ i ∧ i < 36
  · have q := congrFun h1 (i - 28)
    rw [pg_s _ _ (Or.inl rfl) (by omega), e0, e4] at q
    show pgV _ _ _ = passF (pg M p) x y w i
    unfold passF
    rw [if_neg i27, if_neg i46, if_pos a0, ← q]
    unfold pgV
    rw [if_neg (by omega), if_neg (by omega), if_neg (by omega), if_neg (by omega), show p + 28 + 8 * 0 + (i - 28) = p + i by omega, h3, upd2_ne2 (by omega), s2.2 _ (by omega)]
  by_cases a1 : 36 ≤ i ∧ i < 44
  · have q := congrFun h2 (i - 36)
    rw [pg_s _ _ (Or.inr rfl) (by omega), e1, e5] at q
    show pgV _ _ _ = passF (pg M p) x y w i
    unfold passF
    rw [if_neg i27, if_neg i46, if_neg a0, if_pos a1, ← q]
    unfold pgV
    rw [if_neg (by omega), if_neg (by omega), if_neg (by omega), if_neg (by omega), show p + 28 + 8 * 1 + (i - 36) = p + i by omega, h3, upd2_ne2 (by omega)]
  show pgV _ _ _ = passF (pg M p) x y w i
  unfold passF
  rw [if_neg i27, if_neg i46, if_neg a0, if_neg a1]
  unfold pg
  by_cases hb : 0 ≤ i ∧ i < 47
  · rw [rk 0 (by decide), r0 (p + i) (by omega) (by omega), hs, upd2_ne2 (by omega)]
  · rw [rk 0 (by decide)]
    by_cases e2 : i = 47
    · subst e2; rw [pgV_c47, pgV_c47]
    · rw [pgV_out (by omega), pgV_out (by omega)]
theorem tireS_ext {M M' : Mem} {p s x r b : Int} (hs : s = 0 ∨ s = 1) (hb : b = p + 28 + 8 * s) (h0 : M' 1 (b + 0) = M 1 (b + 0) + M 1 (b + 1) - x) (h1 : M' 1 (b + 1) = M 1 (b + 2) + (if r = 1 then x else 0)) (h2 : M' 1 (b + 2) = M 1 (b + 3) + (if r = 2 then x else 0)) (h3 : M' 1 (b + 3) = M 1 (b + 4) + (if r = 3 then x else 0)) (h4 : M' 1 (b + 4) = (if r = 4 then x else 0)) (h5 : ∀ j, 5 ≤ j → j < 8 → M' 1 (b + j) = M 1 (b + j)) : sdF (pg M' p) s = tireS (sdF (pg M p) s) x r := by
  apply sdF_fn
  · intro j q1 q2
    rw [pg_s _ _ hs ⟨q1, q2⟩, ← hb]
    unfold tireS
    rw [pg_s _ _ hs (by omega), pg_s _ _ hs (by omega), ← hb]
    rcases (show j = 0 ∨ j = 1 ∨ j = 2 ∨ j = 3 ∨ j = 4 ∨ 5 ≤ j by omega) with e | e | e | e | e | e
    · subst e; rw [if_pos rfl]; exact h0
    · subst e; rw [if_neg (by decide), if_pos (by decide), pg_s _ _ hs (by omega), ← hb]; exact h1
    · subst e; rw [if_neg (by decide), if_pos (by decide), pg_s _ _ hs (by omega), ← hb]; exact h2
    · subst e; rw [if_neg (by decide), if_pos (by decide), pg_s _ _ hs (by omega), ← hb]; exact h3
    · subst e; rw [if_neg (by decide), if_neg (by decide), if_pos rfl]; exact h4
    · rw [if_neg (by omega), if_neg (by omega), if_neg (by omega), pg_s _ _ hs ⟨q1, q2⟩, ← hb]
      exact h5 j e q2
  · intro j hj
    exact tireS_out (fun i hi => sdF_o _ _ hi) hj
theorem rest_rows {M M1 M2 M3 M4 M5 M6 : Mem} {p b s x i0 i1 i2 i3 i4 i6 v0 v1 v2 v3 v6 : Int} (hs : s = 0 ∨ s = 1) (hp : 0 ≤ p) (hb : b = p + 28 + 8 * s) (hr : 1 ≤ pg M p 44 ∧ pg M p 44 ≤ 4)
    (h1 : M1 = upd2 M 1 i0 v0) (h2 : M2 = upd2 M1 1 i1 v1) (h3 : M3 = upd2 M2 1 i2 v2) (h4 : M4 = upd2 M3 1 i3 v3) (h5 : M5 = upd2 M4 1 i4 0) (h6 : M6 = upd2 M5 1 i6 v6)
    (e0 : i0 = b) (e1 : i1 = b + 1) (e2 : i2 = b + 2) (e3 : i3 = b + 3) (e4 : i4 = b + 4) (e6 : i6 = b + pg M p 44) (w0 : v0 = M 1 b + M 1 (b + 1) - x) (w1 : v1 = M 1 (b + 2)) (w2 : v2 = M 1 (b + 3)) (w3 : v3 = M 1 (b + 4)) (w6 : v6 = M5 1 i6 + x) :
    sdF (pg M6 p) s = tireS (sdF (pg M p) s) x (pg M p 44) ∧ (∀ q : Nat, q ≠ 1 → M6 q = M q) ∧ ∀ j, (j < p + 28 + 8 * s ∨ p + 36 + 8 * s ≤ j) → M6 1 j = M 1 j := by
  subst e0 e1 e2 e3 e4 e6
  obtain ⟨r, hrd⟩ : ∃ r, r = pg M p 44 := ⟨_, rfl⟩
  rw [← hrd] at hr h6 w6 ⊢
  have a0 : M5 1 i0 = M 1 i0 + M 1 (i0 + 1) - x := by rw [h5, upd2_ne2 (by omega), h4, upd2_ne2 (by omega), h3, upd2_ne2 (by omega), h2, upd2_ne2 (by omega), h1, upd2_eq, w0]
  have a1 : M5 1 (i0 + 1) = M 1 (i0 + 2) := by rw [h5, upd2_ne2 (by omega), h4, upd2_ne2 (by omega), h3, upd2_ne2 (by omega), h2, upd2_eq, w1]
  have a2 : M5 1 (i0 + 2) = M 1 (i0 + 3) := by rw [h5, upd2_ne2 (by omega), h4, upd2_ne2 (by omega), h3, upd2_eq, w2]
  have a3 : M5 1 (i0 + 3) = M 1 (i0 + 4) := by rw [h5, upd2_ne2 (by omega), h4, upd2_eq, w3]
  have a4 : M5 1 (i0 + 4) = 0 := by rw [h5, upd2_eq]
  have ao : ∀ j, (j < i0 ∨ i0 + 4 < j) → M5 1 j = M 1 j := fun j hj => by rw [h5, upd2_ne2 (by omega), h4, upd2_ne2 (by omega), h3, upd2_ne2 (by omega), h2, upd2_ne2 (by omega), h1, upd2_ne2 (by omega)]
  have b6 : ∀ j, M6 1 j = if j = i0 + r then M5 1 j + x else M5 1 j := by
    intro j
    rw [h6]
    by_cases e : j = i0 + r
    · subst e; rw [upd2_eq, if_pos rfl, w6]
    · rw [upd2_ne2 e, if_neg e]
  refine ⟨tireS_ext hs hb ?_ ?_ ?_ ?_ ?_ ?_, fun q hq => ?_, fun j hj => ?_⟩
  · rw [b6, if_neg (by omega), Int.add_zero, a0]
  · rw [b6, a1]
    by_cases e : r = 1
    · rw [if_pos (by omega), if_pos e]
    · rw [if_neg (by omega), if_neg e, Int.add_zero]
  · rw [b6, a2]
    by_cases e : r = 2
    · rw [if_pos (by omega), if_pos e]
    · rw [if_neg (by omega), if_neg e, Int.add_zero]
  · rw [b6, a3]
    by_cases e : r = 3
    · rw [if_pos (by omega), if_pos e]
    · rw [if_neg (by omega), if_neg e, Int.add_zero]
  · rw [b6, a4]
    by_cases e : r = 4
    · rw [if_pos (by omega), if_pos e, Int.zero_add]
    · rw [if_neg (by omega), if_neg e]
  · intro j q1 q2
    rw [b6, if_neg (by omega), ao _ (by omega)]
  · rw [h6, upd2_ne1 hq, h5, upd2_ne1 hq, h4, upd2_ne1 hq, h3, upd2_ne1 hq, h2, upd2_ne1 hq, h1, upd2_ne1 hq]
  · rw [b6, if_neg (by omega), ao _ (by omega)]
