section IV
variable {M : Mem} {o : Nat}
theorem InvF.c (h : InvF (fld M o)) : 3 ≤ M o 0 ∧ M o 0 ≤ 9 := h.1
theorem InvF.k (h : InvF (fld M o)) : (0 ≤ M o 1 ∧ M o 1 < M o 0) ∨ M o 1 = 20 ∨ M o 1 = 21 := h.2.1
theorem InvF.k2 (h : InvF (fld M o)) : 0 ≤ M o 1 ∧ M o 1 ≤ 21 := by
  have h1 := h.c
  have h2 := h.k
  omega
theorem InvF.r (h : InvF (fld M o)) : 1 ≤ M o 2 ∧ M o 2 ≤ 4 := h.2.2.1
theorem InvF.b (h : InvF (fld M o)) : 0 ≤ M o 3 ∧ M o 3 ≤ 7 := h.2.2.2.1
theorem InvF.m (h : InvF (fld M o)) : 0 ≤ M o 4 ∧ M o 4 ≤ 100000 := h.2.2.2.2.1
theorem InvF.room (h : InvF (fld M o)) {i : Int} (hi : 0 ≤ i ∧ i < 9) : 1 ≤ M (o + 1) i ∧ M (o + 1) i ≤ 12 := by
  have := h.2.2.2.2.2.1 i hi.1 hi.2
  rwa [fld_r M o hi] at this
theorem InvF.slope (h : InvF (fld M o)) {i : Int} (hi : 0 ≤ i ∧ i < 9) : 0 ≤ M (o + 2) i ∧ M (o + 2) i ≤ 6 := by
  have := h.2.2.2.2.2.2.1 i hi.1 hi.2
  rwa [fld_l M o hi] at this
theorem InvF.hedge (h : InvF (fld M o)) {i : Int} (hi : 0 ≤ i ∧ i < 9) : 0 ≤ M (o + 3) i ∧ M (o + 3) i ≤ 9 := by
  have := h.2.2.2.2.2.2.2.1 i hi.1 hi.2
  rwa [fld_h M o hi] at this
theorem InvF.s0 (h : InvF (fld M o)) : InvS (sd M (o + 4)) := by
  have := h.2.2.2.2.2.2.2.2.1
  rwa [sdF_0] at this
theorem InvF.s1 (h : InvF (fld M o)) : InvS (sd M (o + 6)) := by
  have := h.2.2.2.2.2.2.2.2.2
  rwa [sdF_1] at this
theorem InvS.f {q : Nat} (h : InvS (sd M q)) : 0 ≤ M q 0 ∧ M q 0 ≤ 12 := by
  obtain ⟨h0, h1, h2, h3, h4, h5, -⟩ := h
  rw [← sd_0 M q]
  omega
theorem InvS.fo {q : Nat} (h : InvS (sd M q)) : 0 ≤ M q 2 ∧ M q 2 ≤ 5 := ⟨h.2.2.2.2.2.2.1, h.2.2.2.2.2.2.2.1⟩
theorem InvS.kd {q : Nat} (h : InvS (sd M q)) : 0 ≤ M q 3 ∧ M q 3 ≤ 4 := ⟨h.2.2.2.2.2.2.2.2.1, h.2.2.2.2.2.2.2.2.2.1⟩
theorem InvS.nm {q : Nat} (h : InvS (sd M q)) : 0 ≤ M q 4 ∧ M q 4 ≤ 12 := ⟨h.2.2.2.2.2.2.2.2.2.2.1, h.2.2.2.2.2.2.2.2.2.2.2⟩
end IV
theorem spotF_rng {f : Int → Int} (h : InvF f) : 0 ≤ spotF f (f 27) ∧ spotF f (f 27) ≤ f 47 + 1 := by
  have h1 := h.1
  have h2 := h.2.1
  unfold spotF
  split
  · omega
  · split <;> omega
theorem distF_rng {f : Int → Int} (h : InvF f) (s : Int) : 0 ≤ distF f s ∧ distF f s ≤ f 47 + 1 := by
  have h1 := spotF_rng h
  unfold distF
  split <;> omega
def nearF (f : Int → Int) (s n : Int) : Int := if f 47 ≤ f 27 then distF f s else max 0 (distF f s - n)
def passCap (f : Int → Int) (out : Int) : Int → Int := if f 47 ≤ f 27 then f else passF f (sentF f 0) (sentF f 1) out
def passBut (f : Int → Int) (s x : Int) : Int → Int := if f 47 ≤ f 27 then f else if s = 0 then passF f x (sentF f 1) 0 else passF f (sentF f 0) x 0
def refF (f : Int → Int) (x y : Int) : Int := if ¬ ((0 ≤ x ∧ x ≤ sdF f 0 0) ∧ (0 ≤ y ∧ y ≤ sdF f 1 0)) then -1 else if f 47 ≤ f 27 then -2 else if 999 ≤ f 46 then -3 else 0
theorem upd2_id {M : Mem} {k : Nat} {j v : Int} (h : M k j = v) : upd2 M k j v = M := by
  funext q i
  rw [upd2_at]
  split
  · rename_i z
    rw [z.1, z.2, h]
  · rfl
/-! copies of rows -/
def cpyI (f g : Int → Int) (n : Int) : Int → Int := fun j => if 0 ≤ j ∧ j < n then f j else g j
section CP
variable {p : Program} {l : Launch} {e : Env} {R : Room} {s : State} {m : MethodId} {args : Array Value} {below : List Frame} {meth : Method} {c : Code} {H : Heap} {locs : List Loc} {cells slots : Nat} {Q : State → Prop}
variable {cc : ByteArray} {pc : Nat} {ls : Array Slot} {rest : List Value} {G : va_G} {ad : Nat → Nat} {CA : Nat → ClassId} {nt : Nat} {Ly : List LD} {M : Mem} {A : Nat → Prop} {own : String}
theorem rw_copy (hx : p.tables.exec = Jvm.exec) (hb : c.code = cc) {nL : Nat} (hml : c.maxLocals = nL) (hsz : ls.size = nL) (hts : ∀ w ∈ BIG, w.before args s = true) (hown : s.vm.findClass own = some m.cls) (hW : Wo G ad CA nt Ly A s M H locs) (hnt : 4 ≤ nt) {index : Nat} (hw : Cond.methodLink own index arraycopyName ∈ BIG ∧ Cond.native arraycopyName ∈ BIG ∧ Cond.static arraycopyName ∈ BIG ∧ Cond.initialized "java/lang/System" ∈ BIG)
    (k0 k1 : Nat) {n0 n1 : Nat} {rf0 rf1 : List Nat} (hL0 : Ly[k0]? = some (.inr (0, n0, rf0))) (hL1 : Ly[k1]? = some (.inr (0, n1, rf1))) {n : Nat} (h0 : n ≤ n0) (h1 : n ≤ n1) (hn : n ≤ 2147483647) (hR : 1 ≤ R.frames ∧ (rest.map fun v => v.category).sum + (nativeFrameWords "java/lang/System" "arraycopy" 5 + 11) ≤ R.locals) (hdg : decode cc pc = .ok (.invokestatic index, 3))
    (kk : ∀ (H1 : Heap) (locs1 : List Loc), Wo G ad CA nt Ly A s (updR M k1 (cpyI (M k0) (M k1) n)) H1 locs1 → W p l e R s m args below meth c H1 locs1 cells slots Q (F0 m (pc + 3) ls rest)) : W p l e R s m args below meth c H locs cells slots Q (F0 m pc ls (.int (iN n) :: .int (iN 0) :: .ref (ad k1) :: .int (iN 0) :: .ref (ad k0) :: rest)) := by
  have e0 : (iN 0).toNatClampNeg = 0 := rfl
  have en : (iN n).toNatClampNeg = n := by rw [iN_nat (by omega) (by omega)]; omega
  refine va_copyi (D := G) hx hb (hml.trans hsz.symm) hown (hts _ hw.1) (hts _ hw.2.1) (hts _ hw.2.2.1) (hts _ hw.2.2.2) hW.K hW.P (wls_D hW.inj hW.dom) hW.S k0 k1 0 0 (hW.cell hL0) (hW.cell hL1) (ty := .int) (tyL_get (by omega) rfl) (tyL_get (by omega) rfl) rfl (by decide) (by decide) (fun h => ?_) (by rw [e0, en]; omega) (by rw [e0, en]; omega) (fun i hi => rfl) hR.1 hR.2 hdg fun H1 locs1 hP _ hS => ?_
  · have := (iN_lt (a := n) (b := 0) ⟨by omega, by omega⟩ (by decide)).mp h
    omega
  · refine kk H1 locs1 (hW.putI hL1 ?_ hS)
    rw [e0, en] at hP
    have hq : (va_cpy (fun j : Nat => iN (M k0 j)) (fun j : Nat => iN (M k1 j)) 0 0 n) = fun j : Nat => iN (cpyI (M k0) (M k1) n j) := by
      funext j
      unfold va_cpy cpyI
      by_cases h : j < n
      · rw [if_pos ⟨Nat.zero_le _, by omega⟩, if_pos ⟨by omega, by omega⟩, show 0 + (j - 0) = j by omega]
      · rw [if_neg (by omega), if_neg (by omega)]
    rw [hq] at hP
    exact hP
end CP
theorem hedgeF_rng {f : Int → Int} (h : InvF f) (i : Int) : 0 ≤ hedgeF f i ∧ hedgeF f i ≤ 9 := by
  unfold hedgeF
  split
  · rename_i q
    have h1 := h.1
    exact h.2.2.2.2.2.2.2.1 i q.1 (by omega)
  · decide
theorem sentF_0 (f : Int → Int) : sentF f 0 = if sdF f 0 6 = 1 then sdF f 0 0 / 2 else if sdF f 0 6 = 2 then min (sdF f 0 7) (sdF f 0 0) else if sdF f 0 6 = 3 then (if f 47 - sdF f 0 7 ≤ f 27 then sdF f 0 0 else 0) else if sdF f 0 6 = 4 then min (sdF f 1 0) (sdF f 0 0) else sdF f 0 0 := by
  unfold sentF
  rw [show (1 : Int) - 0 = 1 from rfl]
  simp only [if_true]
theorem sentF_1 (f : Int → Int) : sentF f 1 = if sdF f 1 6 = 1 then sdF f 1 0 / 2 else if sdF f 1 6 = 2 then min (sdF f 1 7) (sdF f 1 0) else if sdF f 1 6 = 3 then (if f 27 < sdF f 1 7 then sdF f 1 0 else 0) else if sdF f 1 6 = 4 then min (sdF f 0 0) (sdF f 1 0) else sdF f 1 0 := by
  unfold sentF
  rw [show (1 : Int) - 1 = 0 from rfl]
  have h : ¬ (1 : Int) = 0 := by decide
  simp only [h, if_false]
theorem InvF.sd (f : Int → Int) (h : InvF f) {s : Int} (hs : s = 0 ∨ s = 1) : InvS (sdF f s) := by
  rcases hs with rfl | rfl
  · exact h.2.2.2.2.2.2.2.2.1
  · exact h.2.2.2.2.2.2.2.2.2
theorem sentF_rng {f : Int → Int} (h : InvF f) {s : Int} (hs : s = 0 ∨ s = 1) : 0 ≤ sentF f s ∧ sentF f s ≤ sdF f s 0 := by
  have h0 := InvF.sd f h (s := 0) (Or.inl rfl)
  have h1 := InvF.sd f h (s := 1) (Or.inr rfl)
  obtain ⟨a0, -, -, -, -, -, -, -, -, -, a7, -⟩ := h0
  obtain ⟨b0, -, -, -, -, -, -, -, -, -, b7, -⟩ := h1
  rcases hs with rfl | rfl
  · rw [sentF_0]
    split
    · omega
    split
    · omega
    split
    · split <;> omega
    split <;> omega
  · rw [sentF_1]
    split
    · omega
    split
    · omega
    split
    · split <;> omega
    split <;> omega
theorem pushS_rng {g : Int → Int} (h : InvS g) {x r : Int} (hx : x ≤ 12) : 0 ≤ pushS g x r ∧ pushS g x r ≤ 12 := by
  have h5 := h.2.2.2.2.2.2.1
  unfold pushS
  omega
theorem netF_rng {f : Int → Int} (h : InvF f) (hk : f 27 < f 47) {x y : Int} (hx : x ≤ 12) (hy : y ≤ 12) : -100 ≤ netF f x y ∧ netF f x y ≤ 100 := by
  have hc := h.1
  have hk2 := h.2.1
  have h0 := pushS_rng (InvF.sd f h (s := 0) (Or.inl rfl)) (x := x) (r := f (3 * f 27)) hx
  have h1 := pushS_rng (InvF.sd f h (s := 1) (Or.inr rfl)) (x := y) (r := f (3 * f 27)) hy
  have h2 := h.2.2.2.2.2.2.1 (f 27) (by omega) (by omega)
  unfold netF
  omega
theorem wayF_rng (f : Int → Int) (n : Int) : -1 ≤ wayF f n ∧ wayF f n ≤ 1 := by
  unfold wayF
  split
  · omega
  · split <;> omega
theorem shiftK_rng {cells k w : Int} (hc : 3 ≤ cells ∧ cells ≤ 9) (hk : 0 ≤ k ∧ k ≤ 21) (hw : -1 ≤ w ∧ w ≤ 1) : 0 ≤ shiftK cells k w ∧ shiftK cells k w ≤ 21 := by
  unfold shiftK
  split
  · exact hk
  · split
    · omega
    · split <;> omega
theorem upd2_twice {M : Mem} {k : Nat} {j v v' : Int} : upd2 (upd2 M k j v) k j v' = upd2 M k j v' := by
  funext q i
  rw [upd2_at, upd2_at, upd2_at]
  split <;> rfl
theorem passF_out {f : Int → Int} (hf : ∀ i, i < 0 ∨ 48 ≤ i → f i = 0) {x y w i : Int} (h : i < 0 ∨ 48 ≤ i) : passF f x y w i = 0 := by
  unfold passF
  rw [if_neg (by omega), if_neg (by omega), if_neg (by omega), if_neg (by omega)]
  exact hf i h
theorem pass_page {M Ms M1 M2 : Mem} {o : Nat} {x y w k : Int} (hs : Ms = upd2 M o 1 k) (h1 : sd M1 (o + 4) = tireS (sd Ms (o + 4)) x (M o 2) ∧ Same Ms M1 (o + 4) 2) (h2 : sd M2 (o + 6) = tireS (sd M1 (o + 6)) y (M o 2) ∧ Same M1 M2 (o + 6) 2) (hk : kegF (fld M o) x y w = k) :
    fld (upd2 M2 o 4 (M o 4 + 1)) o = passF (fld M o) x y w ∧ Same M (upd2 M2 o 4 (M o 4 + 1)) o 8 := by
  have e2 : ∀ q, q < o + 6 ∨ o + 8 ≤ q → M2 q = M1 q := fun q hq => h2.2 q (by omega)
  have e1 : ∀ q, q < o + 4 ∨ o + 6 ≤ q → M1 q = Ms q := fun q hq => h1.2 q (by omega)
  have es : ∀ q, q ≠ o → Ms q = M q := fun q hq => by rw [hs]; exact upd2_ne1 hq
  have eo : M2 o = Ms o := (e2 o (by omega)).trans (e1 o (by omega))
  have eA : ∀ q, q ≠ o → upd2 M2 o 4 (M o 4 + 1) q = M2 q := fun q hq => upd2_ne1 hq
  have s0 : sd (upd2 M2 o 4 (M o 4 + 1)) (o + 4) = tireS (sd M (o + 4)) x (M o 2) := by
    rw [sd_same (eA (o + 4) (by omega)) (eA (o + 4 + 1) (by omega)), sd_same (e2 (o + 4) (by omega)) (e2 (o + 4 + 1) (by omega)), h1.1, sd_same (es (o + 4) (by omega)) (es (o + 4 + 1) (by omega))]
  have s1 : sd (upd2 M2 o 4 (M o 4 + 1)) (o + 6) = tireS (sd M (o + 6)) y (M o 2) := by
    rw [sd_same (eA (o + 6) (by omega)) (eA (o + 6 + 1) (by omega)), h2.1, sd_same (e1 (o + 6) (by omega)) (e1 (o + 6 + 1) (by omega)), sd_same (es (o + 6) (by omega)) (es (o + 6 + 1) (by omega))]
  have er : ∀ q, o < q → q < o + 4 → upd2 M2 o 4 (M o 4 + 1) q = M q := fun q h3 h4 => by
    rw [eA q (by omega), e2 q (by omega), e1 q (by omega), es q (by omega)]
  refine ⟨fld_ext ?_ ?_ ?_ ?_ ?_ ?_ ?_ ?_ ?_ ?_ ?_, ?_⟩
  · rw [upd2_ne2 (by decide), eo, hs, upd2_ne2 (by decide)]; rfl
  · rw [upd2_ne2 (by decide), eo, hs, upd2_eq, ← hk]; rfl
  · rw [upd2_ne2 (by decide), eo, hs, upd2_ne2 (by decide)]; rfl
  · rw [upd2_ne2 (by decide), eo, hs, upd2_ne2 (by decide)]; rfl
  · rw [upd2_eq]; rfl
  · intro i hi hi2
    rw [er (o + 1) (by omega) (by omega)]
    unfold passF
    rw [if_neg (by omega), if_neg (by omega), if_neg (by omega), if_neg (by omega), fld_r M o ⟨hi, hi2⟩]
  · intro i hi hi2
    rw [er (o + 2) (by omega) (by omega)]
    unfold passF
    rw [if_neg (by omega), if_neg (by omega), if_neg (by omega), if_neg (by omega), fld_l M o ⟨hi, hi2⟩]
  · intro i hi hi2
    rw [er (o + 3) (by omega) (by omega)]
    unfold passF
    rw [if_neg (by omega), if_neg (by omega), if_neg (by omega), if_neg (by omega), fld_h M o ⟨hi, hi2⟩]
  · intro j hj hj2
    rw [s0]
    unfold passF
    rw [if_neg (by omega), if_neg (by omega), if_pos (by omega), sdF_0, fld_44, show 28 + j - 28 = j by omega]
  · intro j hj hj2
    rw [s1]
    unfold passF
    rw [if_neg (by omega), if_neg (by omega), if_neg (by omega), if_pos (by omega), sdF_1, fld_44, show 36 + j - 36 = j by omega]
  · exact fun i hi => passF_out (fun i hi => fld_out M o hi) hi
  · intro q hq
    rw [eA q (by omega), e2 q (by omega), e1 q (by omega), es q (by omega)]
/-- a field copied -/
theorem copy_page {M M1 M2 M3 : Mem} {o o2 : Nat} (hd : o2 + 8 ≤ o ∨ o + 8 ≤ o2) (ha : Same M M1 o 4) (h0 : M1 o 0 = M o2 0) (h1 : M1 o 1 = M o2 1) (h2 : M1 o 2 = M o2 2) (h3 : M1 o 3 = M o2 3) (h4 : M1 o 4 = M o2 4) (hr : ∀ i, 0 ≤ i → i < 9 → M1 (o + 1) i = M (o2 + 1) i) (hl : ∀ i, 0 ≤ i → i < 9 → M1 (o + 2) i = M (o2 + 2) i) (hh : ∀ i, 0 ≤ i → i < 9 → M1 (o + 3) i = M (o2 + 3) i)
    (s0 : sd M2 (o + 4) = sd M1 (o2 + 4) ∧ Same M1 M2 (o + 4) 2) (s1 : sd M3 (o + 6) = sd M2 (o2 + 6) ∧ Same M2 M3 (o + 6) 2) : fld M3 o = fld M o2 ∧ Same M M3 o 8 := by
  have e3 : ∀ q, q < o + 6 ∨ o + 8 ≤ q → M3 q = M2 q := fun q hq => s1.2 q (by omega)
  have e2 : ∀ q, q < o + 4 ∨ o + 6 ≤ q → M2 q = M1 q := fun q hq => s0.2 q (by omega)
  have e : ∀ q, q < o + 4 → M3 q = M1 q := fun q hq => (e3 q (by omega)).trans (e2 q (by omega))
  refine ⟨fld_ext ?_ ?_ ?_ ?_ ?_ ?_ ?_ ?_ ?_ ?_ ?_, ?_⟩
  · rw [e o (by omega), h0]; rfl
  · rw [e o (by omega), h1]; rfl
  · rw [e o (by omega), h2]; rfl
  · rw [e o (by omega), h3]; rfl
  · rw [e o (by omega), h4]; rfl
  · intro i hi hi2
    rw [e (o + 1) (by omega), hr i hi hi2, fld_r M o2 ⟨hi, hi2⟩]
  · intro i hi hi2
    rw [e (o + 2) (by omega), hl i hi hi2, fld_l M o2 ⟨hi, hi2⟩]
  · intro i hi hi2
    rw [e (o + 3) (by omega), hh i hi hi2, fld_h M o2 ⟨hi, hi2⟩]
  · intro j hj hj2
    rw [sd_same (e3 (o + 4) (by omega)) (e3 (o + 4 + 1) (by omega)), s0.1, sd_same (ha (o2 + 4) (by omega)) (ha (o2 + 4 + 1) (by omega)), fld_s0 M o2 ⟨hj, hj2⟩]
  · intro j hj hj2
    rw [s1.1, sd_same (e2 (o2 + 6) (by omega)) (e2 (o2 + 6 + 1) (by omega)), sd_same (ha (o2 + 6) (by omega)) (ha (o2 + 6 + 1) (by omega)), fld_s1 M o2 ⟨hj, hj2⟩]
  · exact fun i hi => fld_out M o2 hi
  · intro q hq
    rw [e3 q (by omega), e2 q (by omega), ha q (by omega)]
/-- the field of the first minute -/
def clearF : Int → Int := fun i => if i = 27 then 2 else if i = 44 then 2 else if i = 47 then 5 else if 0 ≤ i ∧ i < 27 then (if i % 3 = 0 then 12 else if i % 3 = 1 then 3 else 0) else 0
