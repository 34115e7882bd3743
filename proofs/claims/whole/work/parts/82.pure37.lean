/-! the methods left: what is kept, sheets, readings, the text, replies -/
theorem readF_congr {lane size as fr : Int} {row row' : Int → Int} (hz : size ≤ 40) (h : ∀ j, 0 ≤ j → j < 40 → row j = row' j) : ∀ (n : Nat) (w : Int) (f : Int → Int), readF lane size row as fr n w f = readF lane size row' as fr n w f
  | 0, w, f => by rw [readF_0, readF_0]
  | n + 1, w, f => by
    by_cases c : faultF lane size as (fr + 2 * w) 2 = 0
    · have q := faultF_ok c
      have e1 := h (fr + 2 * w) (by omega) (by omega)
      have e2 := h (fr + 2 * w + 1) (by omega) (by omega)
      by_cases d : refF f (row (fr + 2 * w)) (row (fr + 2 * w + 1)) = 0
      · rw [readF_on c d, e1, e2]
        rw [e1, e2] at d
        rw [readF_on c d]
        exact readF_congr hz h n _ _
      · rw [readF_ref c d]
        rw [e1, e2] at d
        rw [readF_ref c d]
    · rw [readF_flt c, readF_flt c]
theorem readF_inv {lane size as fr : Int} {row : Int → Int} : ∀ (n : Nat) (w : Int) (f : Int → Int), InvF f → f 46 ≤ 999 → InvF (readF lane size row as fr n w f).2.2 ∧ (readF lane size row as fr n w f).2.2 46 ≤ 999 ∧ (readF lane size row as fr n w f).2.2 47 = f 47
  | 0, w, f, h, hm => by rw [readF_0]; exact ⟨h, hm, rfl⟩
  | n + 1, w, f, h, hm => by
    by_cases c : faultF lane size as (fr + 2 * w) 2 = 0
    · by_cases d : refF f (row (fr + 2 * w)) (row (fr + 2 * w + 1)) = 0
      · rw [readF_on c d]
        have q := pass27 h (w := 0) d
        have r := readF_inv (lane := lane) (size := size) (as := as) (fr := fr) (row := row) n (w + 1) (passF f (row (fr + 2 * w)) (row (fr + 2 * w + 1)) 0) q.1 q.2.1
        exact ⟨r.1, r.2.1, r.2.2.trans rfl⟩
      · rw [readF_ref c d]; exact ⟨h, hm, rfl⟩
    · rw [readF_flt c]; exact ⟨h, hm, rfl⟩
section AG
variable {M S : Mem}
theorem RR.withI {M' S' : Mem} (h : RR M S) (hM : ∀ (q : Nat) (j : Int), ((1 ≤ q ∧ q ≤ 8) ∨ (17 ≤ q ∧ q ≤ 19) ∨ (q = 0 ∧ j = 11) ∨ (207 ≤ q ∧ q ≤ 209) ∨ 227 ≤ q) → M' q j = M q j) (hS : ∀ (q : Nat) (j : Int), (q = 0 ∨ (q = 1 ∧ j < 47) ∨ (2 ≤ q ∧ q ≤ 9) ∨ 11 ≤ q) → S' q j = S q j) (hi : RI M' S') : RR M' S' := by
  obtain ⟨a, b, c, d, e, g, k⟩ := h
  exact ⟨a.frame (fun q j x y => hM q j (by omega)) (hS 0 1 (by omega)) (fun j x y => hS 1 j (by omega)), hi, c.frame (fun q j x y => hM q j (by omega)) (hS 0 22 (by omega)) (fun j => hS 9 j (by omega)), d.frame (hM 18 1 (by omega)) (fun j => hM 19 j (by omega)) (hS 0 9 (by omega)) (fun j => hS 4 j (by omega)), e.frame (fun q j x y => hM q j (by omega)) (fun q j x y => hS q j (by omega)), g.frame (hM 17 4 (by omega)) (hM 0 11 (by omega)) (hS 0 10 (by omega)) (hS 0 27 (by omega)), k.frame (fun j => hS 5 j (by omega)) (fun j => hS 6 j (by omega))⟩
theorem RR.withS {M' S' : Mem} (h : RR M S) (hM : ∀ (q : Nat) (j : Int), q < 227 → M' q j = M q j) (hS : ∀ (q : Nat) (j : Int), q < 11 → S' q j = S q j) (hi : RS M' S') : RR M' S' := by
  obtain ⟨a, b, c, d, e, g, k⟩ := h
  exact ⟨a.frame (fun q j x y => hM q j (by omega)) (hS 0 1 (by omega)) (fun j x y => hS 1 j (by omega)), b.frame (hM 0 9 (by omega)) (fun q j x y => hM q j (by omega)) (by show M' 1 0 = M 1 0; exact hM 1 0 (by omega)) (hS 0 1 (by omega)) (fun j => hS 10 j (by omega)) (fun j x y => hS 1 j (by omega)), c.frame (fun q j x y => hM q j (by omega)) (hS 0 22 (by omega)) (fun j => hS 9 j (by omega)), d.frame (hM 18 1 (by omega)) (fun j => hM 19 j (by omega)) (hS 0 9 (by omega)) (fun j => hS 4 j (by omega)), hi, g.frame (hM 17 4 (by omega)) (hM 0 11 (by omega)) (hS 0 10 (by omega)) (hS 0 27 (by omega)), k.frame (fun j => hS 5 j (by omega)) (fun j => hS 6 j (by omega))⟩
theorem RR.pageF {M' S' : Mem} {f : Int → Int} (h : RR M S) (hM : ∀ (q : Nat) (j : Int), ((q = 0 ∧ j = 9) ∨ (18 ≤ q ∧ q ≤ 19) ∨ 207 ≤ q) → M' q j = M q j) (hS : ∀ (q : Nat) (j : Int), ((q = 0 ∧ (j = 1 ∨ j = 9 ∨ j = 22)) ∨ (q = 1 ∧ 47 ≤ j ∧ j < 141) ∨ 4 ≤ q ∧ q ≤ 6 ∨ 9 ≤ q) → S' q j = S q j) (h1 : fld M' 1 = f) (h2 : pg S' 0 = f) (hi : InvF f) (hm : f 46 ≤ 999) (hc : f 47 = fld M 1 47) (hf : RF M' S') : RR M' S' := by
  obtain ⟨a, b, c, d, e, g, k⟩ := h
  exact ⟨⟨by rw [h1, h2], by rw [h1]; exact hi, by rw [h1]; exact hm⟩, b.frame (hM 0 9 (by omega)) (fun q j x y => hM q j (by omega)) (by rw [h1]; exact hc) (hS 0 1 (by omega)) (fun j => hS 10 j (by omega)) (fun j x y => hS 1 j (by omega)), c.frame (fun q j x y => hM q j (by omega)) (hS 0 22 (by omega)) (fun j => hS 9 j (by omega)), d.frame (hM 18 1 (by omega)) (fun j => hM 19 j (by omega)) (hS 0 9 (by omega)) (fun j => hS 4 j (by omega)), e.frame (fun q j x y => hM q j (by omega)) (fun q j x y => hS q j (by omega)), hf, k.frame (fun j => hS 5 j (by omega)) (fun j => hS 6 j (by omega))⟩
theorem ag_keep (h : RR M S) (k : Int) : Agree (P_X10_keep k M) (P_X11_keep k S) := by
  refine Agree.I (fun a M' b S' h1 h2 => ?_)
  have hp := h.1
  have hi := h.2.1
  rcases h1 with ⟨g1, r1, f1, m1, w1⟩ | ⟨g1, r1, m1⟩ <;> rcases h2 with ⟨g2, r2, f2, m2, w2⟩ | ⟨g2, r2, m2⟩
  · obtain ⟨b1, b2, b3, b4, b5⟩ := hi
    rcases g1 with rfl | rfl
    · have r1 : a = M 0 9 % 2 := r1
      have f1 : fld M' 210 = fld M 1 := f1
      have m1 : M' 0 9 = if M 0 9 % 2 = 1 then M 0 9 else M 0 9 + 1 := m1
      have w1 : ∀ (q : Nat) (j : Int), ¬ (q = 0 ∧ j = 9) → (q < 210 ∨ 218 ≤ q) → M' q j = M q j := w1
      have f2 : pg S' 47 = pg S 0 := f2
      have w2 : ∀ (q : Nat) (j : Int), ¬ (q = 10 ∧ j = 0) → (q ≠ 1 ∨ (j < 47 ∨ 94 ≤ j)) → S' q j = S q j := w2
      have e1 : fld M' 1 = fld M 1 := fld_of (fun q j x y => w1 q j (by omega) (by omega))
      have e2 : S' 10 1 = S 10 1 := w2 10 1 (by omega) (by omega)
      refine ⟨by rw [r1, r2]; omega, h.withI (fun q j hq => w1 q j (by omega) (by omega)) (fun q j hq => w2 q j (by omega) (by omega)) ⟨Or.inr m2, by rw [e2]; exact b2, ?_, fun _ => ?_, fun z => ?_⟩⟩
      · rw [m1, m2, e2]; split <;> omega
      · rw [f1, f2, e1]; exact ⟨hp.1, hp.2.1, hp.2.2, rfl⟩
      · rw [e2] at z
        rw [e1, fld_of (M := M) (M' := M') (o := 218) (fun q j x y => w1 q j (by omega) (by omega)), pg_of (S := S) (S' := S') (p := 94) (w2 0 1 (by omega) (by omega)) (fun j x y => w2 1 j (by omega) (by omega))]
        exact b5 z
    · have r1 : a = M 0 9 / 2 := r1
      have f1 : fld M' 218 = fld M 1 := f1
      have m1 : M' 0 9 = if M 0 9 / 2 = 1 then M 0 9 else M 0 9 + 2 := m1
      have w1 : ∀ (q : Nat) (j : Int), ¬ (q = 0 ∧ j = 9) → (q < 218 ∨ 226 ≤ q) → M' q j = M q j := w1
      have f2 : pg S' 94 = pg S 0 := f2
      have w2 : ∀ (q : Nat) (j : Int), ¬ (q = 10 ∧ j = 1) → (q ≠ 1 ∨ (j < 94 ∨ 141 ≤ j)) → S' q j = S q j := w2
      have e1 : fld M' 1 = fld M 1 := fld_of (fun q j x y => w1 q j (by omega) (by omega))
      have e2 : S' 10 0 = S 10 0 := w2 10 0 (by omega) (by omega)
      refine ⟨by rw [r1, r2]; omega, h.withI (fun q j hq => w1 q j (by omega) (by omega)) (fun q j hq => w2 q j (by omega) (by omega)) ⟨by rw [e2]; exact b1, Or.inr m2, ?_, fun z => ?_, fun _ => ?_⟩⟩
      · rw [m1, m2, e2]; split <;> omega
      · rw [e2] at z
        rw [e1, fld_of (M := M) (M' := M') (o := 210) (fun q j x y => w1 q j (by omega) (by omega)), pg_of (S := S) (S' := S') (p := 47) (w2 0 1 (by omega) (by omega)) (fun j x y => w2 1 j (by omega) (by omega))]
        exact b4 z
      · rw [f1, f2, e1]; exact ⟨hp.1, hp.2.1, hp.2.2, rfl⟩
  · exact absurd g1 g2
  · exact absurd g2 g1
  · exact ⟨by rw [r1, r2], by rw [m1, m2]; exact h⟩
theorem ag_back (h : RR M S) (k : Int) : Agree (P_X10_back k M) (P_X11_back k S) := by
  refine Agree.I (fun a M' b S' h1 h2 => ?_)
  obtain ⟨b1, b2, b3, b4, b5⟩ := h.2.1
  rcases h1 with ⟨g1, k1, f1, s1, r1⟩ | ⟨g1, k1, r1, m1⟩ | ⟨g1, r1, m1⟩ <;> rcases h2 with ⟨g2, k2, f2, s2, r2⟩ | ⟨g2, k2, r2, m2⟩ | ⟨g2, r2, m2⟩
  · rcases g1 with rfl | rfl
    · have f1 : fld M' 1 = fld M 210 := f1
      have r1 : a = fld M 210 46 := r1
      have f2 : pg S' 0 = pg S 47 := f2
      have r2 : b = pg S 47 46 := r2
      have z := b4 k2
      exact ⟨by rw [r1, r2, z.1], h.pageS s1 s2 f1 (f2.trans z.1.symm) z.2.1 z.2.2.1 z.2.2.2⟩
    · have f1 : fld M' 1 = fld M 218 := f1
      have r1 : a = fld M 218 46 := r1
      have f2 : pg S' 0 = pg S 94 := f2
      have r2 : b = pg S 94 46 := r2
      have z := b5 k2
      exact ⟨by rw [r1, r2, z.1], h.pageS s1 s2 f1 (f2.trans z.1.symm) z.2.1 z.2.2.1 z.2.2.2⟩
  · exfalso
    rcases g1 with rfl | rfl
    · have k1 : M 0 9 % 2 = 1 := k1
      omega
    · have k1 : M 0 9 / 2 = 1 := k1
      omega
  · exact absurd g1 g2
  · exfalso
    rcases g1 with rfl | rfl
    · have k1 : M 0 9 % 2 = 0 := k1
      omega
    · have k1 : M 0 9 / 2 = 0 := k1
      omega
  · exact ⟨by rw [r1, r2], by rw [m1, m2]; exact h⟩
  · exact absurd g1 g2
  · exact absurd g2 g1
  · exact absurd g2 g1
  · exact ⟨by rw [r1, r2], by rw [m1, m2]; exact h⟩
theorem ag_sheet (h : RR M S) (k x n : Int) : Agree (P_X10_sheet k x n M) (P_X11_sheet k x n S) := by
  refine Agree.I (fun a M' b S' h1 h2 => ?_)
  have hs := h.2.2.2.2.1
  rcases h1 with ⟨g1, n1, r1, ⟨e0, e1, e2⟩, s1⟩ | ⟨g1, n1, r1, m1⟩ | ⟨g1, r1, m1⟩ <;> rcases h2 with ⟨g2, n2, r2, t0, t1, t2, w2⟩ | ⟨g2, n2, r2, m2⟩ | ⟨g2, r2, m2⟩
  · obtain ⟨⟨k0, k1⟩, ⟨x0, x1⟩, n3⟩ := g1
    refine ⟨by rw [r1, r2], h.withS (fun q j hq => by rw [s1 q (by omega)]) (fun q j hq => w2 q j (by omega) (by omega) (by omega)) (fun i i0 i1 => ?_)⟩
    by_cases c : i = k
    · subst c
      unfold lnR
      rw [e0, e1, t0, t1]
      refine ⟨by rw [if_neg (by omega)], rfl, fun j j0 j1 => by rw [e2 j j0 j1, t2 j j0 j1], by omega, by omega, fun j j0 j1 => by rw [t2 j j0 j1]; decide⟩
    · obtain ⟨q1, q2, q3, q4, q5, q6⟩ := hs i i0 i1
      have u0 := s1 (227 + 2 * i.toNat) (by omega)
      have u1 := s1 (227 + 2 * i.toNat + 1) (by omega)
      have v0 : S' 11 i = S 11 i := w2 11 i (by omega) (by omega) (by omega)
      have v1 : S' 12 i = S 12 i := w2 12 i (by omega) (by omega) (by omega)
      have v2 : ∀ j, 0 ≤ j → j < 40 → S' 13 (40 * i + j) = S 13 (40 * i + j) := fun j j0 j1 => w2 13 _ (by omega) (by omega) (by omega)
      have q1 : M (227 + 2 * i.toNat) 0 = if S 11 i = -4 then -1 else S 11 i := q1
      show M' (227 + 2 * i.toNat) 0 = (if S' 11 i = -4 then -1 else S' 11 i) ∧ _
      rw [u0, u1, v0, v1]
      exact ⟨q1, q2, fun j j0 j1 => by rw [v2 j j0 j1]; exact q3 j j0 j1, q4, q5, fun j j0 j1 => by rw [v2 j j0 j1]; exact q6 j j0 j1⟩
  · exfalso; omega
  · exact absurd g1 g2
  · exfalso; omega
  · exact ⟨by rw [r1, r2], by rw [m1, m2]; exact h⟩
  · exact absurd g1 g2
  · exact absurd g2 g1
  · exact absurd g2 g1
  · exact ⟨by rw [r1, r2], by rw [m1, m2]; exact h⟩
theorem lowB_in (lane : Int) {v : Int} (hv : in32 v) : in32 (lowB lane v) := by
  unfold lowB
  split
  · exact in32_toInt _
  · split
    · exact in32_toInt _
    · exact hv
theorem ag_lay (h : RR M S) (k i v : Int) (hv : in32 v) : Agree (P_X10_lay k i v M) (P_X11_lay k i v S) := by
  refine Agree.I (fun a M' b S' h1 h2 => ?_)
  have hs := h.2.2.2.2.1
  rcases h1 with ⟨g1, h1⟩ | ⟨g1, r1, m1⟩ <;> rcases h2 with ⟨g2, h2⟩ | ⟨g2, r2, m2⟩
  · have hk := hs k g1.1 g1.2
    rw [hk.1, hk.2.1] at h1
    rcases h1 with ⟨c1, r1, m1⟩ | ⟨c1, r1, m1⟩ <;> rcases h2 with ⟨c2, r2, m2⟩ | ⟨c2, r2, m2⟩
    · have hf := faultF_ok c1
      have h5 := hk.2.2.2.2.1
      refine ⟨by rw [r1, r2], h.withS (fun q j hq => by rw [m1, upd2_ne1 (by omega)]) (fun q j hq => by rw [m2, upd2_ne1 (by omega)]) (fun t t0 t1 => ?_)⟩
      obtain ⟨q1, q2, q3, q4, q5, q6⟩ := hs t t0 t1
      have v0 : S' 11 = S 11 := by rw [m2, upd2_ne1 (by omega)]
      have v1 : S' 12 = S 12 := by rw [m2, upd2_ne1 (by omega)]
      have u0 : M' (227 + 2 * t.toNat) = M (227 + 2 * t.toNat) := by rw [m1, upd2_ne1 (by omega)]
      unfold lnR at q1
      show M' (227 + 2 * t.toNat) 0 = (if S' 11 t = -4 then -1 else S' 11 t) ∧ _
      rw [u0, v0, v1]
      refine ⟨q1, q2, fun j j0 j1 => ?_, q4, q5, fun j j0 j1 => ?_⟩
      · rw [m1, m2, upd2_at, upd2_at]
        by_cases c : t = k ∧ j = i
        · rw [if_pos ⟨by omega, c.2⟩, if_pos ⟨rfl, by omega⟩]
        · rw [if_neg (by omega), if_neg (by omega)]
          exact q3 j j0 j1
      · rw [m2, upd2_at]
        split
        · exact lowB_in _ hv
        · exact q6 j j0 j1
    · exact absurd c1 c2
    · exact absurd c2 c1
    · exact ⟨by rw [r1, r2], by rw [m1, m2]; exact h⟩
  · exact absurd g1 g2
  · exact absurd g2 g1
  · exact ⟨by rw [r1, r2], by rw [m1, m2]; exact h⟩
theorem ag_read (h : RR M S) (k x fr n : Int) : Agree (P_X10_read k x fr n M) (P_X11_read k x fr n S) := by
  refine Agree.I (fun a M' b S' h1 h2 => ?_)
  have hs := h.2.2.2.2.1
  have hp := h.1
  have hF := h.2.2.2.2.2.1
  by_cases gk : 0 ≤ k ∧ k < 4
  · obtain ⟨q1, q2, q3, q4, q5, q6⟩ := hs k gk.1 gk.2
    have e : ∀ (m : Nat) (w : Int) (f : Int → Int), readF (lnR S k) (S 12 k) (M (227 + 2 * k.toNat + 1)) x fr m w f = readF (lnR S k) (S 12 k) (rowR S k) x fr m w f := readF_congr (by omega) q3
    rw [q1, q2] at h1
    rw [← h.1.1, ← e] at h2
    have hi := readF_inv (lane := lnR S k) (size := S 12 k) (as := x) (fr := fr) (row := M (227 + 2 * k.toNat + 1)) n.toNat 0 (fld M 1) hp.2.1 hp.2.2
    generalize hT : readF (lnR S k) (S 12 k) (M (227 + 2 * k.toNat + 1)) x fr n.toNat 0 (fld M 1) = T at h1 h2 hi
    rcases h1 with ⟨g1, z1, r1, f1, o1, w1⟩ | ⟨g1, z1, r1, s1⟩ | ⟨g1, r1, m1⟩ <;> rcases h2 with ⟨g2, z2, r2, f2, o2, w2, w3⟩ | ⟨g2, z2, r2, f2, s2⟩ | ⟨g2, r2, m2⟩
    · exact ⟨by rw [r1, r2], h.pageF (fun q j hq => w1 q j (by omega) (by omega)) (fun q j hq => by
        by_cases c : q = 1
        · subst c; exact w3 j (by omega) (by omega)
        · exact w2 q j (by omega) c) f1 f2 hi.1 hi.2.1 hi.2.2 ⟨by rw [w1 17 4 (by omega) (by omega), w2 0 10 (by omega) (by omega)]; exact hF.1, by rw [o1, o2]⟩⟩
    · exfalso; omega
    · exact absurd g1 g2
    · exfalso; omega
    · refine ⟨by rw [r1, r2], h.pageF (f := fld M 1) (fun q j hq => by rw [s1 q (by omega)]) (fun q j hq => by
        by_cases c : q = 1
        · subst c; exact s2.2 j (by omega) (by omega)
        · rw [s2.1 q c]) (fld_of (fun q j x y => by rw [s1 q (by omega)])) f2 hp.2.1 hp.2.2 rfl ⟨?_, ?_⟩⟩
      · rw [s1 17 (by omega), s2.1 0 (by decide)]; exact hF.1
      · rw [s1 0 (by omega), s2.1 0 (by decide)]; exact hF.2
    · exact absurd g1 g2
    · exact absurd g2 g1
    · exact absurd g2 g1
    · exact ⟨by rw [r1, r2], by rw [m1, m2]; exact h⟩
  · rcases h1 with ⟨g1, _⟩ | ⟨g1, _⟩ | ⟨g1, r1, m1⟩
    · exact absurd g1.1 gk
    · exact absurd g1.1 gk
    · rcases h2 with ⟨g2, _⟩ | ⟨g2, _⟩ | ⟨g2, r2, m2⟩
      · exact absurd g2.1 gk
      · exact absurd g2.1 gk
      · exact ⟨by rw [r1, r2], by rw [m1, m2]; exact h⟩
theorem ag_text (h : RR M S) : Agree (P_X10_text M) (P_X11_text S) := by
  refine Agree.I (fun a M' b S' h1 h2 => ?_)
  obtain ⟨hP, hI, hT, ⟨t1, t2, t3⟩, hS, hF, hC⟩ := h
  unfold textP at h1
  unfold textR at h2
  rw [t1, t3] at h1
  cases e : closeX (S 0 9) (runX (S 4) (S 0 9) 320 0 st0).2 with
  | inl y =>
    rw [e] at h1 h2
    obtain ⟨r1, c1, -, -, l1, w1⟩ := h1
    obtain ⟨r2, c2, -, -, l2, w2⟩ := h2
    have w2 : ∀ (q : Nat) (j : Int), ((q = 0 ∧ (j = 1 ∨ j = 22 ∨ j = 27)) ∨ q = 1 ∨ 4 ≤ q) → S' q j = S q j := fun q j hq => w2 q j (by unfold Scell; omega)
    have w1 : ∀ (q : Nat) (j : Int), (q ≤ 16 ∨ q = 19 ∨ 29 ≤ q) → M' q j = M q j := fun q j hq => w1 q j (by omega)
    refine ⟨by rw [r1, r2], hP.frame (fun q j x y => w1 q j (by omega)) (w2 0 1 (by omega)) (fun j x y => w2 1 j (by omega)), hI.frame (w1 0 9 (by omega)) (fun q j x y => w1 q j (by omega)) (by show M' 1 0 = M 1 0; exact w1 1 0 (by omega)) (w2 0 1 (by omega)) (fun j => w2 10 j (by omega)) (fun j x y => w2 1 j (by omega)), hT.frame (fun q j x y => w1 q j (by omega)) (w2 0 22 (by omega)) (fun j => w2 9 j (by omega)), ⟨by rw [l1, l2], by rw [l2]; decide, ?_⟩, hS.frame (fun q j x y => w1 q j (by omega)) (fun q j x y => w2 q j (by omega)), ⟨by rw [c1, c2], by rw [w1 0 11 (by omega), w2 0 27 (by omega)]; exact hF.2⟩, hC.frame (fun j => w2 5 j (by omega)) (fun j => w2 6 j (by omega))⟩
    funext j
    rw [w2 4 j (by omega), ← t3]
    show band (M' 19 j) 255 = band (M 19 j) 255
    rw [w1 19 j (by omega)]
  | inr g =>
    have hg := text_page e
    rw [e] at h1 h2
    obtain ⟨r1, c1, l1, f1, k1, n1, w1⟩ := h1
    obtain ⟨r2, c2, l2, f2, k2, n2, n3, w2⟩ := h2
    have w2 : ∀ (q : Nat) (j : Int), ((q = 0 ∧ j = 27) ∨ (4 ≤ q ∧ q ≤ 9) ∨ 11 ≤ q) → S' q j = S q j := fun q j hq => w2 q j (by unfold Scell; omega)
    have w1 : ∀ (q : Nat) (j : Int), ((q = 0 ∧ j = 11) ∨ q = 19 ∨ (207 ≤ q ∧ ¬ (q = 207 ∧ j = 2))) → M' q j = M q j := fun q j hq => w1 q j (by omega)
    refine ⟨by rw [r1, r2], ⟨by rw [f1, f2], by rw [f1]; exact hg.1, by rw [f1, hg.2]; decide⟩, ⟨Or.inl n2, Or.inl n3, by rw [n1, n2, n3]; decide, fun z => absurd (n2.symm.trans z) (by decide), fun z => absurd (n3.symm.trans z) (by decide)⟩, ⟨⟨by rw [k1]; decide, fun i i0 i1 => ?_⟩, by rw [k1, k2], fun i i0 i1 => ?_⟩, ⟨by rw [l1, l2], by rw [l2]; decide, ?_⟩, hS.frame (fun q j x y => w1 q j (by omega)) (fun q j x y => w2 q j (by omega)), ⟨by rw [c1, c2], by rw [w1 0 11 (by omega), w2 0 27 (by omega)]; exact hF.2⟩, hC.frame (fun j => w2 5 j (by omega)) (fun j => w2 6 j (by omega))⟩
    · rw [k1] at i1; omega
    · rw [k1] at i1; omega
    · funext j
      rw [w2 4 j (by omega), ← t3]
      show band (M' 19 j) 255 = band (M 19 j) 255
      rw [w1 19 j (by omega)]
theorem can_zero {s : Int} (hs : s = 0 ∨ s = 1) {q : Int → Int} : ∀ (j : Nat) (k : Int) (f : Int → Int), (∀ i, k ≤ i → i < k + j → q i = 0) → InvF f → f 46 + j ≤ 100000 → canN s j k f q
  | 0, _, _, _, _, _ => trivial
  | j + 1, k, f, hq, h, hm => by
    rw [canN_S]
    have hmo := mostF_rng h hs
    have h0 := hq k (by omega) (by omega)
    rw [h0]
    exact ⟨hmo.1, can_zero hs j (k + 1) _ (fun i a b => hq i (by omega) (by omega)) (passBut_inv h (by omega) hs ⟨by omega, by omega⟩) (by have := passBut_min f s 0; omega)⟩
theorem stepN_le {s k : Int} {j : Nat} {f q : Int → Int} {B : BS} : (stepN s j k f q B).1 ≤ B.1 := by
  by_cases c : canN s j k f q
  · rw [stepN_t c]
    split
    · show distF _ _ ≤ B.1; omega
    · exact Int.le_refl _
  · rw [stepN_f c]; exact Int.le_refl _
theorem foldB_lt {F : Int → BS → BS} {B : BS} (h0 : (F 0 B).1 < 11) (hF : ∀ c B, (F c B).1 ≤ B.1) : ∀ m : Nat, (foldB F (m + 1) B).1 < 11
  | 0 => h0
  | m + 1 => by
    have := foldB_lt h0 hF m
    have := hF ((m + 1 : Nat) : Int) (foldB F (m + 1) B)
    show (F ((m + 1 : Nat) : Int) (foldB F (m + 1) B)).1 < 11
    omega
theorem reply_eq {n s : Int} (hs : s = 0 ∨ s = 1) (hn : 1 ≤ n ∧ n ≤ 4) {f : Int → Int} (h : InvF f) (hm : f 46 ≤ 999) (pt b b' : Int → Int) (g : Int) : (srch s n.toNat 0 f pt (11, g, b)).2.1 = (FBr n s f b' (p13 n).toNat).2.1 ∧ ∀ i, 0 ≤ i → i < n → (srch s n.toNat 0 f pt (11, g, b)).2.2 i = (FBr n s f b' (p13 n).toNat).2.2 i := by
  have hp : (p13 n).toNat = 13 ^ n.toNat := by rw [(p13_rng (e := n) (by omega)).2.2]; exact Int.toNat_natCast _
  have h0 : Bsm n (11, g, b) (11, -4, b') := ⟨rfl, Int.le_refl _, fun z => absurd z (Int.lt_irrefl 11)⟩
  have h1 := srch_fold (n := n) hs n.toNat 0 f pt (11, g, b) (11, -4, b') h (by omega) (by omega) (by omega) h0
  have h9 : Bsm n ((11, -4, b') : BS) (11, -4, b') := ⟨rfl, Int.le_refl _, fun z => absurd z (Int.lt_irrefl 11)⟩
  have h2 := foldB_sm (n := n) (F := fun r B => stepN s n.toNat 0 f (mixQ n 0 r pt) B) (G := fun r B => stepN s n.toNat 0 f (mixQ n 0 r (fun _ => 0)) B) (13 ^ n.toNat) (fun c hc B B' hB => stepN_sm (by omega) (fun i a0 a1 => by unfold mixQ; rw [if_neg (by omega), if_neg (by omega)]) hB) h9
  have h3 : (FBr n s f b' (p13 n).toNat).1 < 11 := by
    rw [hp]
    obtain ⟨m, e⟩ : ∃ m : Nat, 13 ^ n.toNat = m + 1 := ⟨13 ^ n.toNat - 1, by have : 0 < 13 ^ n.toNat := Nat.pow_pos (by decide); omega⟩
    rw [e]
    refine foldB_lt ?_ (fun c B => stepN_le) m
    have hq : ∀ i : Int, 0 ≤ i → i < 0 + n.toNat → mixQ n 0 0 (fun _ => 0) i = 0 := fun i a0 a1 => by unfold mixQ; rw [if_neg (by omega), Int.zero_ediv]; rfl
    have hc := can_zero hs n.toNat 0 f hq h (by omega)
    have he := endN_inv hs n.toNat 0 f (fun i a0 a1 => by rw [hq i a0 a1]; decide) hc h (by omega)
    have hd := distF_rng he.1 s
    rw [he.2] at hd
    have h47 := h.1
    show (stepN s n.toNat 0 f (mixQ n 0 0 (fun _ => 0)) (11, -4, b')).1 < 11
    rw [stepN_t hc, if_pos (show distF _ s < 11 by omega)]
    show distF _ s < 11
    omega
  have h4 : Bsm n (srch s n.toNat 0 f pt (11, g, b)) (foldB (fun r B => stepN s n.toNat 0 f (mixQ n 0 r pt) B) (13 ^ n.toNat) (11, -4, b')) := h1
  have h2 : Bsm n (foldB (fun r B => stepN s n.toNat 0 f (mixQ n 0 r pt) B) (13 ^ n.toNat) (11, -4, b')) (FBr n s f b' (p13 n).toNat) := by rw [hp]; exact h2
  have l2 : (foldB (fun r B => stepN s n.toNat 0 f (mixQ n 0 r pt) B) (13 ^ n.toNat) (11, -4, b')).1 < 11 := by rw [h2.1]; exact h3
  have l1 : (srch s n.toNat 0 f pt (11, g, b)).1 < 11 := by rw [h4.1]; exact l2
  have a1 := h4.2.2 l1
  have a2 := h2.2.2 l2
  exact ⟨a1.1.trans a2.1, fun i i0 i1 => (a1.2 i i0 i1).trans (a2.2 i i0 i1)⟩
theorem ag_reply (h : RR M S) (sx n w : Int) : Agree (P_X10_reply sx n w M) (P_X11_reply sx n w S) := by
  refine Agree.I (fun a M' b S' h1 h2 => ?_)
  rw [h.e47, h.e27] at h1
  rcases h1 with ⟨g1, k1, ⟨pt, bb, g, r1⟩, m1⟩ | ⟨g1, k1, r1, m1⟩ | ⟨g1, r1, m1⟩ <;> rcases h2 with ⟨g2, k2, r2, m2⟩ | ⟨g2, k2, r2, m2⟩ | ⟨g2, r2, m2⟩
  · have q := reply_eq g1.1 g1.2.1 h.inv.1 h.inv.2 pt bb (S 8) g
    rw [h.1.1] at r1
    refine ⟨?_, h.scr (fun q j hq => by rw [m1 q (by omega)]) (fun q j x y z => by
      by_cases c : q = 1
      · subst c; exact m2.2 j (by have := z rfl; omega)
      · rw [m2.1 q c x y])⟩
    rw [r1, r2]
    split
    · exact q.1
    · exact q.2 _ (by omega) (by omega)
  · exfalso; omega
  · exact absurd g1 g2
  · exfalso; omega
  · exact ⟨by rw [r1, r2], by rw [m1, m2]; exact h⟩
  · exact absurd g1 g2
  · exact absurd g2 g1
  · exact absurd g2 g1
  · exact ⟨by rw [r1, r2], by rw [m1, m2]; exact h⟩
end AG
