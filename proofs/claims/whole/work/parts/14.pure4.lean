theorem tireS_inv {g : Int → Int} (h : InvS g) {x r : Int} (hx : 0 ≤ x ∧ x ≤ g 0) (hr : 1 ≤ r ∧ r ≤ 4) : InvS (tireS g x r) := by
  obtain ⟨h0, h1, h2, h3, h4, h5, h6⟩ := h
  have e0 : tireS g x r 0 = g 0 + g 1 - x := rfl
  have e1 : tireS g x r 1 = g 2 + (if r = 1 then x else 0) := rfl
  have e2 : tireS g x r 2 = g 3 + (if r = 2 then x else 0) := rfl
  have e3 : tireS g x r 3 = g 4 + (if r = 3 then x else 0) := rfl
  have e4 : tireS g x r 4 = if r = 4 then x else 0 := rfl
  have e5 : tireS g x r 5 = g 5 := rfl
  have e6 : tireS g x r 6 = g 6 := rfl
  have e7 : tireS g x r 7 = g 7 := rfl
  unfold InvS
  rw [e0, e1, e2, e3, e4, e5, e6, e7]
  rcases (show r = 1 ∨ r = 2 ∨ r = 3 ∨ r = 4 by omega) with rfl | rfl | rfl | rfl
  · rw [if_pos rfl, if_neg (by decide), if_neg (by decide), if_neg (by decide)]; omega
  · rw [if_neg (by decide), if_pos rfl, if_neg (by decide), if_neg (by decide)]; omega
  · rw [if_neg (by decide), if_neg (by decide), if_pos rfl, if_neg (by decide)]; omega
  · rw [if_neg (by decide), if_neg (by decide), if_neg (by decide), if_pos rfl]; omega
theorem passF_s0 (f : Int → Int) (x y w : Int) (hf : InvF f) : sdF (passF f x y w) 0 = tireS (sdF f 0) x (f 44) := by
  funext j
  unfold sdF
  by_cases h : 0 ≤ j ∧ j < 8
  · rw [if_pos h]
    unfold passF
    rw [if_neg (by omega), if_neg (by omega), if_pos (by omega), show 28 + 8 * 0 + j - 28 = j by omega]
    rfl
  · rw [if_neg h, tireS_out (fun i hi => if_neg (by omega)) (by omega)]
theorem passF_s1 (f : Int → Int) (x y w : Int) (hf : InvF f) : sdF (passF f x y w) 1 = tireS (sdF f 1) y (f 44) := by
  funext j
  unfold sdF
  by_cases h : 0 ≤ j ∧ j < 8
  · rw [if_pos h]
    unfold passF
    rw [if_neg (by omega), if_neg (by omega), if_neg (by omega), if_pos (by omega), show 28 + 8 * 1 + j - 36 = j by omega]
    rfl
  · rw [if_neg h, tireS_out (fun i hi => if_neg (by omega)) (by omega)]
theorem shiftK_ok {cells k w : Int} (hc : 3 ≤ cells ∧ cells ≤ 9) (hk : (0 ≤ k ∧ k < cells) ∨ k = 20 ∨ k = 21) (hw : -1 ≤ w ∧ w ≤ 1) : (0 ≤ shiftK cells k w ∧ shiftK cells k w < cells) ∨ shiftK cells k w = 20 ∨ shiftK cells k w = 21 := by
  unfold shiftK
  split
  · exact hk
  · split
    · omega
    · split <;> omega
theorem passF_inv {f : Int → Int} (h : InvF f) (hm : f 46 < 100000) {x y w : Int} (hx : 0 ≤ x ∧ x ≤ sdF f 0 0) (hy : 0 ≤ y ∧ y ≤ sdF f 1 0) : InvF (passF f x y w) := by
  have hs0 := passF_s0 f x y w h
  have hs1 := passF_s1 f x y w h
  obtain ⟨h1, h2, h3, h4, h5, h6, h7, h8, h9, h10⟩ := h
  have e47 : passF f x y w 47 = f 47 := rfl
  have e27 : passF f x y w 27 = kegF f x y w := rfl
  have e44 : passF f x y w 44 = f 44 := rfl
  have e45 : passF f x y w 45 = f 45 := rfl
  have e46 : passF f x y w 46 = f 46 + 1 := rfl
  have er : ∀ i, 0 ≤ i → i < 27 → passF f x y w i = f i := fun i q1 q2 => by
    unfold passF
    rw [if_neg (by omega), if_neg (by omega), if_neg (by omega), if_neg (by omega)]
  have hwy := wayF_rng f (netF f x y)
  have hk1 := shiftK_ok h1 h2 hwy
  have hk : (0 ≤ kegF f x y w ∧ kegF f x y w < f 47) ∨ kegF f x y w = 20 ∨ kegF f x y w = 21 := by
    unfold kegF
    split
    · exact hk1
    · exact shiftK_ok h1 hk1 hwy
  unfold InvF
  rw [e47, e27, e44, e45, e46, hs0, hs1]
  exact ⟨h1, hk, h3, h4, by omega, fun i q1 q2 => by rw [er _ (by omega) (by omega)]; exact h6 i q1 q2, fun i q1 q2 => by rw [er _ (by omega) (by omega)]; exact h7 i q1 q2, fun i q1 q2 => by rw [er _ (by omega) (by omega)]; exact h8 i q1 q2, tireS_inv h9 hx h3, tireS_inv h10 hy h3⟩
theorem passCap_inv {f : Int → Int} (h : InvF f) (hm : f 46 < 100000) (w : Int) : InvF (passCap f w) := by
  unfold passCap
  split
  · exact h
  · exact passF_inv h hm (sentF_rng h (Or.inl rfl)) (sentF_rng h (Or.inr rfl))
theorem passCap_min (f : Int → Int) (w : Int) : passCap f w 46 ≤ f 46 + 1 ∧ f 46 ≤ passCap f w 46 := by
  unfold passCap
  split
  · omega
  · show f 46 + 1 ≤ f 46 + 1 ∧ f 46 ≤ f 46 + 1
    omega
theorem passCap_47 (f : Int → Int) (w : Int) : passCap f w 47 = f 47 := by
  unfold passCap
  split <;> rfl
theorem passCap_45 (f : Int → Int) (w : Int) : passCap f w 45 = f 45 := by
  unfold passCap
  split <;> rfl
/-- so many minutes by captains, nobody breaking out -/
def capN (f : Int → Int) : Nat → Int → Int
  | 0 => f
  | n + 1 => passCap (capN f n) 0
theorem capN_inv {f : Int → Int} (h : InvF f) : ∀ n : Nat, f 46 + n ≤ 100000 → InvF (capN f n) ∧ capN f n 46 ≤ f 46 + n
  | 0, _ => ⟨h, by show f 46 ≤ _; omega⟩
  | n + 1, hn => by
    have ih := capN_inv h n (by omega)
    refine ⟨passCap_inv ih.1 (by omega) 0, ?_⟩
    have := (passCap_min (capN f n) 0).1
    show passCap (capN f n) 0 46 ≤ _
    omega
theorem capN_47 (f : Int → Int) : ∀ n : Nat, capN f n 47 = f 47
  | 0 => rfl
  | n + 1 => (passCap_47 _ _).trans (capN_47 f n)
/-- the page with one number other -/
def setF (f : Int → Int) (i v : Int) : Int → Int := fun j => if j = i then v else f j
theorem setF_eq (f : Int → Int) (i v : Int) : setF f i v i = v := if_pos rfl
theorem setF_ne (f : Int → Int) {i j : Int} (v : Int) (h : j ≠ i) : setF f i v j = f j := if_neg h
theorem fld_setk (M : Mem) (o : Nat) (v : Int) : fld (upd2 M o 1 v) o = setF (fld M o) 27 v := by
  have e : ∀ q, q ≠ o → upd2 M o 1 v q = M q := fun q hq => upd2_ne1 hq
  refine fld_ext ?_ ?_ ?_ ?_ ?_ ?_ ?_ ?_ ?_ ?_ ?_
  · rw [upd2_ne2 (by decide)]; rfl
  · rw [upd2_eq]; rfl
  · rw [upd2_ne2 (by decide)]; rfl
  · rw [upd2_ne2 (by decide)]; rfl
  · rw [upd2_ne2 (by decide)]; rfl
  · intro i h1 h2; rw [e _ (by omega), setF_ne _ _ (by omega), fld_r M o ⟨h1, h2⟩]
  · intro i h1 h2; rw [e _ (by omega), setF_ne _ _ (by omega), fld_l M o ⟨h1, h2⟩]
  · intro i h1 h2; rw [e _ (by omega), setF_ne _ _ (by omega), fld_h M o ⟨h1, h2⟩]
  · intro i h1 h2; rw [sd_same (e _ (by omega)) (e _ (by omega)), setF_ne _ _ (by omega), fld_s0 M o ⟨h1, h2⟩]
  · intro i h1 h2; rw [sd_same (e _ (by omega)) (e _ (by omega)), setF_ne _ _ (by omega), fld_s1 M o ⟨h1, h2⟩]
  · intro i h1; rw [setF_ne _ _ (by omega), fld_out M o h1]
theorem upd2_Same {M : Mem} {o n k : Nat} {j v : Int} (h1 : o ≤ k) (h2 : k < o + n) : Same M (upd2 M k j v) o n := Same.rf.up h1 h2
/-- one number of a side other: 0 fresh, 5 fools, 6 kind, 7 number -/
theorem fld_setside (M : Mem) (o : Nat) (s j v : Int) (b : Nat) (hb : (s = 0 ∧ b = 4) ∨ (s = 1 ∧ b = 6)) (jj : Int) (hj : (j = 0 ∧ jj = 0) ∨ (j = 2 ∧ jj = 5) ∨ (j = 3 ∧ jj = 6) ∨ (j = 4 ∧ jj = 7)) : fld (upd2 M (o + b) j v) o = setF (fld M o) (28 + 8 * s + jj) v := by
  have e : ∀ q, q ≠ o + b → upd2 M (o + b) j v q = M q := fun q hq => upd2_ne1 hq
  have key : sd (upd2 M (o + b) j v) (o + b) = setF (sd M (o + b)) jj v := by
    rcases hj with ⟨rfl, rfl⟩ | ⟨rfl, rfl⟩ | ⟨rfl, rfl⟩ | ⟨rfl, rfl⟩ <;> apply sd_ext <;> first | (intro i hi; rw [setF_ne _ _ (by omega), sd_out _ _ hi]) | simp [upd2_at, setF, sd_0, sd_1, sd_2, sd_3, sd_4, sd_5, sd_6, sd_7]
  have hjr : 0 ≤ jj ∧ jj < 8 := by omega
  refine fld_ext ?_ ?_ ?_ ?_ ?_ ?_ ?_ ?_ ?_ ?_ ?_
  · rw [e o (by omega), setF_ne _ _ (by omega)]; rfl
  · rw [e o (by omega), setF_ne _ _ (by omega)]; rfl
  · rw [e o (by omega), setF_ne _ _ (by omega)]; rfl
  · rw [e o (by omega), setF_ne _ _ (by omega)]; rfl
  · rw [e o (by omega), setF_ne _ _ (by omega)]; rfl
  · intro i h1 h2; rw [e _ (by omega), setF_ne _ _ (by omega), fld_r M o ⟨h1, h2⟩]
  · intro i h1 h2; rw [e _ (by omega), setF_ne _ _ (by omega), fld_l M o ⟨h1, h2⟩]
  · intro i h1 h2; rw [e _ (by omega), setF_ne _ _ (by omega), fld_h M o ⟨h1, h2⟩]
  · intro i h1 h2
    rcases hb with ⟨rfl, rfl⟩ | ⟨rfl, rfl⟩
    · rw [key]
      by_cases hi : i = jj
      · subst hi; rw [setF_eq, show 28 + i = 28 + 8 * 0 + i by omega, setF_eq]
      · rw [setF_ne _ _ hi, setF_ne _ _ (by omega), fld_s0 M o ⟨h1, h2⟩]
    · rw [sd_same (e _ (by omega)) (e _ (by omega)), setF_ne _ _ (by omega), fld_s0 M o ⟨h1, h2⟩]
  · intro i h1 h2
    rcases hb with ⟨rfl, rfl⟩ | ⟨rfl, rfl⟩
    · rw [sd_same (e _ (by omega)) (e _ (by omega)), setF_ne _ _ (by omega), fld_s1 M o ⟨h1, h2⟩]
    · rw [key]
      by_cases hi : i = jj
      · subst hi; rw [setF_eq, show 36 + i = 28 + 8 * 1 + i by omega, setF_eq]
      · rw [setF_ne _ _ hi, setF_ne _ _ (by omega), fld_s1 M o ⟨h1, h2⟩]
  · intro i h1; rw [setF_ne _ _ (by omega), fld_out M o h1]
/-- one number of a cell other: 1 room, 2 slope, 3 hedge -/
theorem fld_setcell (M : Mem) (o : Nat) (i v : Int) (b : Nat) (hi : 0 ≤ i ∧ i < 9) (hb : b = 1 ∨ b = 2 ∨ b = 3) (c : Int) (hc : c = (b : Int) - 1) : fld (upd2 M (o + b) i v) o = setF (fld M o) (3 * i + c) v := by
  have e : ∀ q, q ≠ o + b → upd2 M (o + b) i v q = M q := fun q hq => upd2_ne1 hq
  refine fld_ext ?_ ?_ ?_ ?_ ?_ ?_ ?_ ?_ ?_ ?_ ?_
  · rw [e o (by omega), setF_ne _ _ (by omega)]; rfl
  · rw [e o (by omega), setF_ne _ _ (by omega)]; rfl
  · rw [e o (by omega), setF_ne _ _ (by omega)]; rfl
  · rw [e o (by omega), setF_ne _ _ (by omega)]; rfl
  · rw [e o (by omega), setF_ne _ _ (by omega)]; rfl
  · intro k h1 h2
    by_cases hb1 : b = 1 ∧ k = i
    · obtain ⟨rfl, rfl⟩ := hb1; rw [upd2_eq]; unfold setF; rw [if_pos (by omega)]
    · rw [setF_ne _ _ (by omega), fld_r M o ⟨h1, h2⟩, upd2_at, if_neg (by omega)]
  · intro k h1 h2
    by_cases hb1 : b = 2 ∧ k = i
    · obtain ⟨rfl, rfl⟩ := hb1; rw [upd2_eq]; unfold setF; rw [if_pos (by omega)]
    · rw [setF_ne _ _ (by omega), fld_l M o ⟨h1, h2⟩, upd2_at, if_neg (by omega)]
  · intro k h1 h2
    by_cases hb1 : b = 3 ∧ k = i
    · obtain ⟨rfl, rfl⟩ := hb1; rw [upd2_eq]; unfold setF; rw [if_pos (by omega)]
    · rw [setF_ne _ _ (by omega), fld_h M o ⟨h1, h2⟩, upd2_at, if_neg (by omega)]
  · intro k h1 h2; rw [sd_same (e _ (by omega)) (e _ (by omega)), setF_ne _ _ (by omega), fld_s0 M o ⟨h1, h2⟩]
  · intro k h1 h2; rw [sd_same (e _ (by omega)) (e _ (by omega)), setF_ne _ _ (by omega), fld_s1 M o ⟨h1, h2⟩]
  · intro k h1; rw [setF_ne _ _ (by omega), fld_out M o h1]
/-- one number of the field itself other: 0 cells, 1 keg, 2 rest, 3 breaks, 4 minute -/
theorem fld_setown (M : Mem) (o : Nat) (j jj v : Int) (hj : (j = 0 ∧ jj = 47) ∨ (j = 1 ∧ jj = 27) ∨ (j = 2 ∧ jj = 44) ∨ (j = 3 ∧ jj = 45) ∨ (j = 4 ∧ jj = 46)) : fld (upd2 M o j v) o = setF (fld M o) jj v := by
  have e : ∀ q, q ≠ o → upd2 M o j v q = M q := fun q hq => upd2_ne1 hq
  refine fld_ext ?_ ?_ ?_ ?_ ?_ ?_ ?_ ?_ ?_ ?_ ?_
  · rcases hj with ⟨rfl, rfl⟩ | ⟨rfl, rfl⟩ | ⟨rfl, rfl⟩ | ⟨rfl, rfl⟩ | ⟨rfl, rfl⟩ <;> simp [upd2_at, setF, fld_47]
  · rcases hj with ⟨rfl, rfl⟩ | ⟨rfl, rfl⟩ | ⟨rfl, rfl⟩ | ⟨rfl, rfl⟩ | ⟨rfl, rfl⟩ <;> simp [upd2_at, setF, fld_27]
  · rcases hj with ⟨rfl, rfl⟩ | ⟨rfl, rfl⟩ | ⟨rfl, rfl⟩ | ⟨rfl, rfl⟩ | ⟨rfl, rfl⟩ <;> simp [upd2_at, setF, fld_44]
  · rcases hj with ⟨rfl, rfl⟩ | ⟨rfl, rfl⟩ | ⟨rfl, rfl⟩ | ⟨rfl, rfl⟩ | ⟨rfl, rfl⟩ <;> simp [upd2_at, setF, fld_45]
  · rcases hj with ⟨rfl, rfl⟩ | ⟨rfl, rfl⟩ | ⟨rfl, rfl⟩ | ⟨rfl, rfl⟩ | ⟨rfl, rfl⟩ <;> simp [upd2_at, setF, fld_46]
  · intro i h1 h2; rw [e _ (by omega), setF_ne _ _ (by omega), fld_r M o ⟨h1, h2⟩]
  · intro i h1 h2; rw [e _ (by omega), setF_ne _ _ (by omega), fld_l M o ⟨h1, h2⟩]
  · intro i h1 h2; rw [e _ (by omega), setF_ne _ _ (by omega), fld_h M o ⟨h1, h2⟩]
  · intro i h1 h2; rw [sd_same (e _ (by omega)) (e _ (by omega)), setF_ne _ _ (by omega), fld_s0 M o ⟨h1, h2⟩]
  · intro i h1 h2; rw [sd_same (e _ (by omega)) (e _ (by omega)), setF_ne _ _ (by omega), fld_s1 M o ⟨h1, h2⟩]
  · intro i h1; rw [setF_ne _ _ (by omega), fld_out M o h1]
