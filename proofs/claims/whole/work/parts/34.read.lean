/-! the reader: what a text's tokens make, as far as they were read -/
abbrev PSt := Int × Int × Int × (Int → Int → Bool) × (Int → Int)
abbrev gpos (g : PSt) : Int := g.1
abbrev glp (g : PSt) : Int := g.2.1
abbrev gfar (g : PSt) : Int := g.2.2.1
abbrev gsn (g : PSt) : Int → Int → Bool := g.2.2.2.1
abbrev gpg (g : PSt) : Int → Int := g.2.2.2.2
abbrev PX := (Int × Int) ⊕ PSt
def bitB (x b : Int) : Bool := decide (x / pow2 b % 2 = 1)
section PF
variable (t : Int → Int) (len : Int)
def refX (f : Int) : PX → PX
  | .inr g => .inl (f, tokS t len (glp g))
  | .inl a => .inl a
def nextX : PX → PX
  | .inr g => if tokK t len (gpos g) = 4 then .inl (1, tokS t len (gpos g)) else .inr (tokN t len (gpos g), gpos g, gfar g, gsn g, gpg g)
  | .inl a => .inl a
def chkX (lo hi : Int) : PX → PX
  | .inr g => if tokK t len (glp g) = 2 then (if tokV t len (glp g) < lo ∨ hi < tokV t len (glp g) then .inl (3, tokS t len (glp g)) else .inr g) else .inl (2, tokS t len (glp g))
  | .inl a => .inl a
def numX (lo hi : Int) (x : PX) : PX := chkX t len lo hi (nextX t len x)
def valX (lo : Int) : PX → Int
  | .inr g => tokV t len (glp g)
  | .inl _ => lo
def numV (lo hi : Int) (x : PX) : Int := valX t len lo (numX t len lo hi x)
def farX (i : Int) : PX → PX
  | .inr g => .inr (gpos g, glp g, max (gfar g) i, gsn g, gpg g)
  | .inl a => .inl a
def markX (l b : Int) : PX → PX
  | .inr g => if (gsn g) l b = true then .inl (4, tokS t len (glp g)) else .inr (gpos g, glp g, gfar g, (fun l' b' => gsn g l' b' || (decide (l' = l) && decide (b' = b))), gpg g)
  | .inl a => .inl a
def setX (k v : Int) : PX → PX
  | .inr g => .inr (gpos g, glp g, gfar g, gsn g, setF (gpg g) k v)
  | .inl a => .inl a
noncomputable def wordX (i : Nat) : PX → Int
  | .inr g => wordF t len (tokS t len (glp g)) (tokN t len (glp g)) (tokK t len (glp g)) i
  | .inl _ => -1
def kindX : PX → Int
  | .inr g => tokK t len (glp g)
  | .inl _ => -1
def cellX (l c lo hi : Int) (x : PX) : PX := let i := numV t len 0 8 x; let y := markX t len l i (farX i (numX t len 0 8 x)); setX (3 * i + c) (numV t len lo hi y) (numX t len lo hi y)
def onlyX (l lo hi : Int) (x : PX) : PX := numX t len lo hi (markX t len l 0 x)
def onlyV (l lo hi : Int) (x : PX) : Int := numV t len lo hi (markX t len l 0 x)
def foolsX (l : Int) (x : PX) : PX := let i := numV t len 0 1 x; let y := markX t len l i (numX t len 0 1 x); setX (28 + 8 * i + 5) (numV t len 0 5 y) (numX t len 0 5 y)
noncomputable def kdX (k : Int) (x : PX) : PX := let w := wordX t len 1 x; if w < 0 then refX t len 2 x else setX k w x
noncomputable def sideX (l : Int) (x : PX) : PX :=
  let i := numV t len 0 1 x
  let y := markX t len l i (numX t len 0 1 x)
  let z := kdX t len (28 + 8 * i + 6) (nextX t len (setX (28 + 8 * i + 0) (numV t len 0 12 y) (numX t len 0 12 y)))
  setX (28 + 8 * i + 7) (numV t len 0 12 z) (numX t len 0 12 z)
/-- what stands behind a line's first word -/
noncomputable def bodyX (x : PX) : PX :=
  let w := wordX t len 0 x
  if w = 0 then setX 47 (onlyV t len 0 3 9 x) (onlyX t len 0 3 9 x)
  else if w = 1 then cellX t len 1 0 1 12 x
  else if w = 2 then cellX t len 2 1 0 6 x
  else if w = 3 then cellX t len 3 2 0 9 x
  else if w = 4 then setX 27 (onlyV t len 4 0 8 x) (farX (onlyV t len 4 0 8 x) (onlyX t len 4 0 8 x))
  else if w = 5 then sideX t len 5 x
  else if w = 6 then foolsX t len 6 x
  else if w = 7 then setX 44 (onlyV t len 7 1 4 x) (onlyX t len 7 1 4 x)
  else if w = 8 then setX 45 (onlyV t len 8 0 7 x) (onlyX t len 8 0 7 x)
  else refX t len 2 x
def signX (x : PX) : PX := let y := nextX t len x; if kindX t len y = 3 then y else refX t len 2 y
end PF
def isOk : PX → Prop
  | .inr _ => True
  | .inl _ => False
/-! the reader's memory -/
def tokOK (M : Mem) : Prop := 0 ≤ M 18 4 ∧ M 18 4 ≤ M 18 2 ∧ 0 ≤ M 18 3 ∧ M 18 3 ≤ 4 ∧ (M 18 3 = 2 → 0 ≤ M 18 5 ∧ M 18 5 ≤ 99)
def Rc (M0 M : Mem) : Prop := (∀ (q : Nat) (j : Int), ¬ ((q = 17 ∧ 3 ≤ j) ∨ (q = 18 ∧ 2 ≤ j) ∨ (20 ≤ q ∧ q ≤ 28)) → M q j = M0 q j) ∧ (0 ≤ M 18 2 ∧ M 18 2 ≤ M0 18 1) ∧ ((0 ≤ M 17 3 ∧ M 17 3 ≤ 8) ∧ 3 ≤ M 20 0 ∧ M 20 0 ≤ 9 ∧ -1 ≤ M 20 1 ∧ M 20 1 ≤ 8) ∧ (∀ j, 0 ≤ j → j < 9 → 0 ≤ M 28 j ∧ M 28 j ≤ 511) ∧ (0 ≤ M0 18 1 ∧ M0 18 1 ≤ 320)
def Rx (M : Mem) : PX → Prop
  | .inl a => M 17 4 = a.1 ∧ 1 ≤ a.1 ∧ a.1 ≤ 5 ∧ M 17 5 = a.2 ∧ 0 ≤ a.2 ∧ a.2 ≤ 320 ∧ tokOK M
  | .inr g => M 17 4 = 0 ∧ M 18 2 = (gpos g) ∧ M 17 3 = (gfar g) ∧ fld M 20 = (gpg g) ∧ ∀ l b, 0 ≤ l → l < 9 → 0 ≤ b → b < 9 → bitB (M 28 l) b = (gsn g) l b
def Rt (M0 M : Mem) : PX → Prop
  | .inl _ => True
  | .inr g => M 18 3 = tokK (tb M0) (M0 18 1) (glp g) ∧ M 18 4 = tokS (tb M0) (M0 18 1) (glp g) ∧ M 18 2 = tokN (tb M0) (M0 18 1) (glp g) ∧ (tokK (tb M0) (M0 18 1) (glp g) = 2 → M 18 5 = tokV (tb M0) (M0 18 1) (glp g))
def Rn (M0 M : Mem) (x : PX) : Prop := Rc M0 M ∧ Rx M x
def Rd (M0 M : Mem) (x : PX) : Prop := Rc M0 M ∧ Rx M x ∧ Rt M0 M x ∧ tokOK M
theorem Rd.n {M0 M : Mem} {x : PX} (h : Rd M0 M x) : Rn M0 M x := ⟨h.1, h.2.1⟩
theorem Rc.tb {M0 M : Mem} (h : Rc M0 M) : tb M = tb M0 := by
  funext i
  show band (M 19 i) 255 = band (M0 19 i) 255
  rw [h.1 19 i (by omega)]
theorem Rc.len {M0 M : Mem} (h : Rc M0 M) : M 18 1 = M0 18 1 := h.1 18 1 (by omega)
theorem Rx.f {M : Mem} {x : PX} (h : Rx M x) : 0 ≤ M 17 4 ∧ M 17 4 ≤ 5 := by
  cases x with
  | inl a => have h1 := h.1; have h2 := h.2.1; have h3 := h.2.2.1; omega
  | inr g => have h1 := h.1; omega
theorem Rx.of0 {M : Mem} {x : PX} (h : Rx M x) (h0 : M 17 4 = 0) : ∃ g, x = .inr g := by
  cases x with
  | inl a => have h1 := h.1; have h2 := h.2.1; omega
  | inr g => exact ⟨g, rfl⟩
theorem Rx.of1 {M : Mem} {x : PX} (h : Rx M x) (h0 : M 17 4 ≠ 0) : ∃ a, x = .inl a := by
  cases x with
  | inl a => exact ⟨a, rfl⟩
  | inr g => exact absurd h.1 h0
theorem Rd.refuse {M0 M : Mem} {x : PX} {f : Int} (h : Rd M0 M x) (h0 : M 17 4 = 0) (hf : 1 ≤ f ∧ f ≤ 5) : Rd M0 (upd2 (upd2 M 17 4 f) 17 5 (M 18 4)) (refX (tb M0) (M0 18 1) f x) := by
  obtain ⟨g, rfl⟩ := h.2.1.of0 h0
  obtain ⟨⟨c1, c2, c3, c4, c5⟩, hx, ⟨t1, t2, t3, t4⟩, ho⟩ := h
  have e18 : (upd2 (upd2 M 17 4 f) 17 5 (M 18 4)) 18 = M 18 := by rw [upd2_ne1 (by decide), upd2_ne1 (by decide)]
  have ho' : tokOK (upd2 (upd2 M 17 4 f) 17 5 (M 18 4)) := by unfold tokOK; rw [e18]; exact ho
  refine ⟨⟨fun q j hq => ?_, by rw [e18]; exact c2, ?_, fun j h1 h2 => ?_, c5⟩, ⟨?_, hf.1, hf.2, ?_, ?_, ?_, ho'⟩, trivial, ho'⟩
  · rw [upd2_at, if_neg (by omega), upd2_at, if_neg (by omega)]; exact c1 q j hq
  · simp [upd2_at]; exact c3
  · rw [upd2_ne1 (by decide), upd2_ne1 (by decide)]; exact c4 j h1 h2
  · simp [upd2_at]
  · simp [upd2_at]; exact t2
  · rw [← t2]; exact ho.1
  · rw [← t2]; have := ho.2.1; omega
theorem Rd.refused {M0 M : Mem} {x : PX} {f : Int} (h : Rd M0 M x) (h0 : M 17 4 ≠ 0) : Rd M0 M (refX (tb M0) (M0 18 1) f x) := by
  obtain ⟨a, rfl⟩ := h.2.1.of1 h0
  exact h
abbrev P_X3_refuse (f : Int) (M0 : Mem) (x : PX) (M : Mem) : Option Value → Mem → Prop := oV (fun MM => Rd M0 MM (refX (tb M0) (M0 18 1) f x))
set_option maxRecDepth 100000 in
set_option maxHeartbeats 4000000 in
theorem c_X3_refuse {l : Launch} {G : va_G} {ad : Nat → Nat} {CA : Nat → ClassId} {nt : Nat} (hnt : 6 ≤ nt) (f : Int) (hf9 : in32 f) (hf1 : 1 ≤ f ∧ f ≤ 5) (M0 : Mem) (x : PX) (M : Mem) (hR : Rd M0 M x) : Mt l yX3_refuse cX3_refuse 2 none 0 0 G ad CA nt LyK [.ref (ad 17), .int (iN f)] M (P_X3_refuse f M0 x M) := by
  refine Mt.of (by decide) (Nat.le_of_ble_eq_true rfl) (fun p e s m args below meth c hx hb hr hml hts hown hlocks hnm hW ls hl => ?_)
  have hl : lv_has ls 2 [(0, .ref (ad 17)), (1, .int (iN f))] := hl
  have hnt4 : 4 ≤ nt := by omega
  obtain ⟨H, hH⟩ : ∃ z, z = s.heap := ⟨_, rfl⟩
  obtain ⟨locs, hlo⟩ : ∃ z : List Loc, z = [] := ⟨_, rfl⟩
  rw [← hH, ← hlo] at hW ⊢
  have hq1 := hR.2.1.f
  have hq2 := hR.2.2.2
  have hq3 := hR.1.2.1
  have hq4 := hR.1.2.2.2.2
  refine lv_aload_n hx hb dX3_refuse_0 rfl (lv_at hl 0 rfl) ?_
  refine rw_getI hx hb hts hown hW 17 lk_17 4 4 rfl rfl fX3_42 dX3_refuse_1 (v := (M 17 4)) rfl ?_
  refine rw_if_ne (tgt := 23) hx hb dX3_refuse_4 (by decide) (by omega) (fun c_4 => ?_) (fun c_4 => ?_)
  · refine rw_vret hx hb hr hlocks hW dX3_refuse_23 (⟨rfl, ?_⟩)
    exact hR.refused c_4
  · refine lv_aload_n hx hb dX3_refuse_7 rfl (lv_at hl 0 rfl) ?_
    refine lv_iload_n hx hb dX3_refuse_8 rfl (lv_at hl 1 rfl) ?_
    refine rw_putI hx hb hts hown hW 17 lk_17 4 4 rfl rfl qX3_42 (v := f) dX3_refuse_9 (fun H locs hW => ?_)
    obtain ⟨M1, hM1⟩ : ∃ z, z = upd2 M 17 4 f := ⟨_, rfl⟩
    rw [← hM1] at hW
    refine lv_aload_n hx hb dX3_refuse_12 rfl (lv_at hl 0 rfl) ?_
    refine lv_aload_n hx hb dX3_refuse_13 rfl (lv_at hl 0 rfl) ?_
    refine rw_getR hx hb hts hown hW 17 lk_17 0 18 rfl fX3_12 dX3_refuse_14 ?_
    refine rw_getI hx hb hts hown hW 18 lk_18 4 4 rfl rfl fX3_143 dX3_refuse_17 (v := (M 18 4)) (by rw [hM1, upd2_ne1 (by omega)]) ?_
    refine rw_putI hx hb hts hown hW 17 lk_17 5 5 rfl rfl qX3_51 (v := (M 18 4)) dX3_refuse_20 (fun H locs hW => ?_)
    obtain ⟨M2, hM2⟩ : ∃ z, z = upd2 M1 17 5 (M 18 4) := ⟨_, rfl⟩
    rw [← hM2] at hW
    refine rw_vret hx hb hr hlocks hW dX3_refuse_23 (⟨rfl, ?_⟩)
    rw [hM2, hM1]; exact hR.refuse c_4 hf1
theorem kindF_2 {c : Int} (h : kindF c = 2) : 48 ≤ c ∧ c ≤ 57 := by
  unfold kindF at h
  repeat' split at h
  all_goals omega
theorem tokV_rng {t : Int → Int} {len n : Int} (h0 : 0 ≤ n) (hn : n ≤ len) (hk : tokK t len n = 2) : 0 ≤ tokV t len n ∧ tokV t len n ≤ 99 := by
  have hs := tokS_rng (t := t) hn
  have hk0 : tokK0 t len n = 2 := by
    unfold tokK at hk
    split at hk
    · omega
    · exact hk
  have hle : tokN t len n - tokS t len n ≤ 2 := by
    unfold tokK at hk
    split at hk
    · omega
    · rename_i q; omega
  have hN : tokN t len n = scanF (isK 2) t len (len - tokS t len n).toNat (tokS t len n) := by
    unfold tokN
    rw [if_neg (by omega), if_pos hk0]
  have h2 := tokK0_2 h0 hn hk0
  have hd := kindF_2 h2.2
  unfold tokV
  rw [hN] at hle ⊢
  generalize tokS t len n = s at *
  have q1 : isK 2 (t s) = true := isK_iff.mpr h2.2
  rw [byteF_in ⟨by omega, h2.1⟩]
  rw [scanF_on h2.1 q1] at hle ⊢
  by_cases h3 : s + 1 < len ∧ isK 2 (t (s + 1)) = true
  · have hd2 := kindF_2 (isK_iff.mp h3.2)
    rw [byteF_in ⟨by omega, h3.1⟩]
    split <;> omega
  · rw [scanF_off h3, if_pos (by omega)]
    omega
theorem tokN_rng {t : Int → Int} {len n : Int} (ht : ∀ i, 0 ≤ t i ∧ t i ≤ 255) (h0 : 0 ≤ n) (hn : n ≤ len) : tokS t len n ≤ tokN t len n ∧ tokN t len n ≤ len := by
  have hs := tokS_rng (t := t) hn
  unfold tokN
  have r1 := scanF_rng (isK 1) t len (len - tokS t len n).toNat (tokS t len n)
  have r2 := scanF_rng (isK 2) t len (len - tokS t len n).toNat (tokS t len n)
  split
  · exact ⟨r1.1, r1.2 hs.2⟩
  split
  · exact ⟨r2.1, r2.2 hs.2⟩
  split
  · omega
  · rename_i q
    have : ¬ len ≤ tokS t len n := fun z => q ((kindF_b (len := len) ht (show 0 ≤ tokS t len n by omega)).mpr z)
    omega
theorem tb_rng (M : Mem) (i : Int) : 0 ≤ tb M i ∧ tb M i ≤ 255 := band_rng _
theorem tokK_rng {t : Int → Int} {len n : Int} : 0 ≤ tokK t len n ∧ tokK t len n ≤ 4 := by
  have := kindF_rng (byteF t len (tokS t len n))
  unfold tokK tokK0
  split <;> omega
theorem Rn.err {M0 M : Mem} {x : PX} (h : Rn M0 M x) (h0 : M 17 4 ≠ 0) : Rd M0 M x := by
  obtain ⟨a, rfl⟩ := h.2.of1 h0
  exact ⟨h.1, h.2, trivial, h.2.2.2.2.2.2.2⟩
theorem nextX_err {M0 M : Mem} {x : PX} (h : Rn M0 M x) (h0 : M 17 4 ≠ 0) (t : Int → Int) (len : Int) : nextX t len x = x := by
  obtain ⟨a, rfl⟩ := h.2.of1 h0
  rfl
theorem nextX_4 {t : Int → Int} {len : Int} {g : PSt} (h : tokK t len (gpos g) = 4) : nextX t len (.inr g) = refX t len 1 (.inr (tokN t len (gpos g), gpos g, gfar g, gsn g, gpg g)) := by
  show (if _ then _ else _) = _
  rw [if_pos h]
  rfl
theorem nextX_n {t : Int → Int} {len : Int} {g : PSt} (h : tokK t len (gpos g) ≠ 4) : nextX t len (.inr g) = .inr (tokN t len (gpos g), gpos g, gfar g, gsn g, gpg g) := by
  show (if _ then _ else _) = _
  rw [if_neg h]
theorem Rn.adv {M0 M M1 : Mem} {x : PX} (h : Rn M0 M x) (h0 : M 17 4 = 0) (ha : M1 18 3 = tokK (tb M) (M 18 1) (M 18 2) ∧ M1 18 4 = tokS (tb M) (M 18 1) (M 18 2) ∧ M1 18 2 = tokN (tb M) (M 18 1) (M 18 2) ∧ (tokK (tb M) (M 18 1) (M 18 2) = 2 → M1 18 5 = tokV (tb M) (M 18 1) (M 18 2)) ∧ ∀ (q : Nat) (j : Int), ¬(q = 18 ∧ 2 ≤ j) → M1 q j = M q j) :
    ∃ g : PSt, x = .inr g ∧ Rd M0 M1 (.inr (tokN (tb M0) (M0 18 1) (gpos g), gpos g, gfar g, gsn g, gpg g)) ∧ M1 18 3 = tokK (tb M0) (M0 18 1) (gpos g) := by
  obtain ⟨g, rfl⟩ := h.2.of0 h0
  obtain ⟨hc, x1, x2, x3, x4, x5⟩ := h
  rw [hc.tb, hc.len, x2] at ha
  obtain ⟨a1, a2, a3, a4, a5⟩ := ha
  obtain ⟨c1, c2, c3, c4, c5⟩ := hc
  have hs := tokS_rng (t := tb M0) (len := M0 18 1) (n := gpos g) (by omega)
  have hn := tokN_rng (t := tb M0) (len := M0 18 1) (n := gpos g) (tb_rng M0) (by omega) (by omega)
  have hkr := tokK_rng (t := tb M0) (len := M0 18 1) (n := gpos g)
  have ho : tokOK M1 := ⟨by omega, by omega, by omega, by omega, fun z => by rw [a4 (by omega)]; exact tokV_rng (by omega) (by omega) (by omega)⟩
  refine ⟨g, rfl, ⟨⟨fun q j hq => (a5 q j (by omega)).trans (c1 q j hq), by omega, ?_, fun j h1 h2 => ?_, c5⟩, ⟨?_, a3, ?_, ?_, ?_⟩, ⟨a1, a2, a3, a4⟩, ho⟩, a1⟩
  · rw [a5 17 3 (by omega), a5 20 0 (by omega), a5 20 1 (by omega)]; exact c3
  · rw [a5 28 j (by omega)]; exact c4 j h1 h2
  · rw [a5 17 4 (by omega)]; exact x1
  · rw [a5 17 3 (by omega)]; exact x3
  · rw [← x4]; exact fld_eq8 (fun q h1 h2 => funext fun j => a5 q j (by omega))
  · intro l b h1 h2 h3 h4; rw [a5 28 l (by omega)]; exact x5 l b h1 h2 h3 h4
abbrev P_X3_next (M0 : Mem) (x : PX) (M : Mem) : Option Value → Mem → Prop := oV (fun MM => Rd M0 MM (nextX (tb M0) (M0 18 1) x))
set_option maxRecDepth 100000 in
set_option maxHeartbeats 4000000 in
theorem c_X3_next {l : Launch} {G : va_G} {ad : Nat → Nat} {CA : Nat → ClassId} {nt : Nat} (hnt : 6 ≤ nt) (M0 : Mem) (x : PX) (M : Mem) (hR : Rn M0 M x) : Mt l yX3_next cX3_next 1 none 2 41 G ad CA nt LyK [.ref (ad 17)] M (P_X3_next M0 x M) := by
  refine Mt.of (by decide) (Nat.le_of_ble_eq_true rfl) (fun p e s m args below meth c hx hb hr hml hts hown hlocks hnm hW ls hl => ?_)
  have hl : lv_has ls 1 [(0, .ref (ad 17))] := hl
  have hnt4 : 4 ≤ nt := by omega
  obtain ⟨H, hH⟩ : ∃ z, z = s.heap := ⟨_, rfl⟩
  obtain ⟨locs, hlo⟩ : ∃ z : List Loc, z = [] := ⟨_, rfl⟩
  rw [← hH, ← hlo] at hW ⊢
  have hq1 := hR.2.f
  have hq3 := hR.1.2.1
  have hq4 := hR.1.2.2.2.2
  have hq5 := hR.1.len
  refine lv_aload_n hx hb dX3_next_0 rfl (lv_at hl 0 rfl) ?_
  refine rw_getI hx hb hts hown hW 17 lk_17 4 4 rfl rfl fX3_42 dX3_next_1 (v := (M 17 4)) rfl ?_
  refine rw_if_ne (tgt := 30) hx hb dX3_next_4 (by decide) (by omega) (fun c_4 => ?_) (fun c_4 => ?_)
  · refine rw_vret hx hb hr hlocks hW dX3_next_30 (⟨rfl, ?_⟩)
    rw [nextX_err hR c_4]; exact hR.err c_4
  · refine lv_aload_n hx hb dX3_next_7 rfl (lv_at hl 0 rfl) ?_
    refine rw_getR hx hb hts hown hW 17 lk_17 0 18 rfl fX3_12 dX3_next_8 ?_
    refine rw_callV hx hb hml hts hown hW ⟨Nat.le_refl 0, Nat.le_refl 0⟩ [] 18 lk_18 rfl (c_X8_advance (l := l) (G := G) (ad := ad) (CA := CA) (nt := nt) (by omega) M (by omega) (by omega)) kX3_140 rfl ⟨Nat.le_of_ble_eq_true rfl, Nat.le_of_ble_eq_true rfl⟩ hl.1 rfl (Nat.le_of_ble_eq_true rfl) dX3_next_11 (fun v1 M2 H locs hp3 hW => ?_)
    obtain ⟨rfl, hM2⟩ := hp3
    refine rw_stk (st' := []) rfl ?_
    obtain ⟨g, hxg, hR1, hk⟩ := hR.adv c_4 hM2
    have hkr := tokK_rng (t := tb M0) (len := M0 18 1) (n := gpos g)
    refine lv_aload_n hx hb dX3_next_14 rfl (lv_at hl 0 rfl) ?_
    refine rw_getR hx hb hts hown hW 17 lk_17 0 18 rfl fX3_12 dX3_next_15 ?_
    refine rw_getI hx hb hts hown hW 18 lk_18 3 3 rfl rfl fX3_57 dX3_next_18 (v := (M2 18 3)) rfl ?_
    refine rw_iconst hx hb dX3_next_21 ?_
    refine rw_icmp_ne (tgt := 30) hx hb dX3_next_22 (by decide) (by omega) (by decide) (fun c_22 => ?_) (fun c_22 => ?_)
    · refine rw_vret hx hb hr hlocks hW dX3_next_30 (⟨rfl, ?_⟩)
      rw [hxg, nextX_n (by omega)]; exact hR1
    · refine lv_aload_n hx hb dX3_next_25 rfl (lv_at hl 0 rfl) ?_
      refine rw_iconst hx hb dX3_next_26 ?_
      refine rw_callV hx hb hml hts hown hW ⟨Nat.le_refl 0, Nat.le_refl 0⟩ [.int (iN 1)] 17 lk_17 rfl (c_X3_refuse (l := l) (G := G) (ad := ad) (CA := CA) (nt := nt) (by omega) 1 (by omega) (by decide) M0 (.inr (tokN (tb M0) (M0 18 1) (gpos g), gpos g, gfar g, gsn g, gpg g)) M2 hR1) kX3_100 rfl ⟨Nat.le_of_ble_eq_true rfl, Nat.le_of_ble_eq_true rfl⟩ hl.1 rfl (Nat.le_of_ble_eq_true rfl) dX3_next_27 (fun v4 M5 H locs hp6 hW => ?_)
      obtain ⟨rfl, hM5⟩ := hp6
      refine rw_stk (st' := []) rfl ?_
      refine rw_vret hx hb hr hlocks hW dX3_next_30 (⟨rfl, ?_⟩)
      rw [hxg, nextX_4 (by omega)]; exact hM5
theorem chk_A {M0 M : Mem} {y : PX} {lo hi : Int} (h : Rd M0 M y) (hk : M 18 3 ≠ 2) : chkX (tb M0) (M0 18 1) lo hi y = refX (tb M0) (M0 18 1) 2 y := by
  cases y with
  | inl a => rfl
  | inr g =>
    show (if _ then _ else _) = _
    rw [if_neg (by rw [← h.2.2.1.1]; exact hk)]
    rfl
theorem chk_B {M0 M : Mem} {y : PX} {lo hi : Int} (h : Rd M0 M y) (hk : M 18 3 = 2) (hv : M 18 5 < lo ∨ hi < M 18 5) : chkX (tb M0) (M0 18 1) lo hi y = refX (tb M0) (M0 18 1) 3 y := by
  cases y with
  | inl a => rfl
  | inr g =>
    have k2 : tokK (tb M0) (M0 18 1) (glp g) = 2 := by rw [← h.2.2.1.1]; exact hk
    show (if _ then (if _ then _ else _) else _) = _
    rw [if_pos k2, if_pos (by rw [← h.2.2.1.2.2.2 k2]; exact hv)]
    rfl
theorem chk_C {M0 M : Mem} {y : PX} {lo hi : Int} (h : Rd M0 M y) (hk : M 18 3 = 2) (hv : lo ≤ M 18 5 ∧ M 18 5 ≤ hi) : chkX (tb M0) (M0 18 1) lo hi y = y := by
  cases y with
  | inl a => rfl
  | inr g =>
    have k2 : tokK (tb M0) (M0 18 1) (glp g) = 2 := by rw [← h.2.2.1.1]; exact hk
    show (if _ then (if _ then _ else _) else _) = _
    rw [if_pos k2, if_neg (by rw [← h.2.2.1.2.2.2 k2]; omega)]
theorem chkX_ok {t : Int → Int} {len lo hi : Int} {y : PX} {g : PSt} (h : chkX t len lo hi y = .inr g) : tokK t len (glp g) = 2 ∧ lo ≤ tokV t len (glp g) ∧ tokV t len (glp g) ≤ hi := by
  cases y with
  | inl a => simp [chkX] at h
  | inr g' =>
    have h' : (if tokK t len (glp g') = 2 then (if tokV t len (glp g') < lo ∨ hi < tokV t len (glp g') then .inl (3, tokS t len (glp g')) else .inr g') else .inl (2, tokS t len (glp g')) : PX) = .inr g := h
    by_cases k : tokK t len (glp g') = 2
    · rw [if_pos k] at h'
      by_cases q : tokV t len (glp g') < lo ∨ hi < tokV t len (glp g')
      · rw [if_pos q] at h'; simp at h'
      · rw [if_neg q] at h'
        have e : g' = g := Sum.inr.inj h'
        rw [← e]
        exact ⟨k, by omega, by omega⟩
    · rw [if_neg k] at h'; simp at h'
theorem numV_rng (t : Int → Int) (len : Int) {lo hi : Int} (h : lo ≤ hi) (x : PX) : lo ≤ numV t len lo hi x ∧ numV t len lo hi x ≤ hi := by
  unfold numV
  cases e : numX t len lo hi x with
  | inl a => exact ⟨Int.le_refl _, h⟩
  | inr g => exact (chkX_ok e).2
theorem Rd.val {M0 M : Mem} {lo hi : Int} {x : PX} (h : Rd M0 M (numX (tb M0) (M0 18 1) lo hi x)) : (M 17 4 ≠ 0 → lo = numV (tb M0) (M0 18 1) lo hi x) ∧ (M 17 4 = 0 → M 18 5 = numV (tb M0) (M0 18 1) lo hi x) := by
  unfold numV
  constructor
  · intro h0
    obtain ⟨a, e⟩ := h.2.1.of1 h0
    rw [e]; rfl
  · intro h0
    obtain ⟨g, e⟩ := h.2.1.of0 h0
    rw [e] at h ⊢
    exact h.2.2.1.2.2.2 (chkX_ok e).1
abbrev P_X3_number (lo : Int) (up : Int) (M0 : Mem) (x : PX) (M : Mem) : Option Value → Mem → Prop := oI (fun zz MM => zz = numV (tb M0) (M0 18 1) lo up x ∧ Rd M0 MM (numX (tb M0) (M0 18 1) lo up x))
set_option maxRecDepth 100000 in
set_option maxHeartbeats 4000000 in
theorem c_X3_number {l : Launch} {G : va_G} {ad : Nat → Nat} {CA : Nat → ClassId} {nt : Nat} (hnt : 6 ≤ nt) (lo : Int) (up : Int) (hlh : 0 ≤ lo ∧ lo ≤ up ∧ up ≤ 12) (M0 : Mem) (x : PX) (M : Mem) (hR : Rn M0 M x) : Mt l yX3_number cX3_number 3 (some .int) 3 61 G ad CA nt LyK [.ref (ad 17), .int (iN lo), .int (iN up)] M (P_X3_number lo up M0 x M) := by
  refine Mt.of (by decide) (Nat.le_of_ble_eq_true rfl) (fun p e s m args below meth c hx hb hr hml hts hown hlocks hnm hW ls hl => ?_)
  have hl : lv_has ls 3 [(0, .ref (ad 17)), (1, .int (iN lo)), (2, .int (iN up))] := hl
  have hnt4 : 4 ≤ nt := by omega
  obtain ⟨H, hH⟩ : ∃ z, z = s.heap := ⟨_, rfl⟩
  obtain ⟨locs, hlo⟩ : ∃ z : List Loc, z = [] := ⟨_, rfl⟩
  rw [← hH, ← hlo] at hW ⊢
  refine lv_aload_n hx hb dX3_number_0 rfl (lv_at hl 0 rfl) ?_
  refine rw_callV hx hb hml hts hown hW ⟨Nat.le_refl 0, Nat.le_refl 0⟩ [] 17 lk_17 rfl (c_X3_next (l := l) (G := G) (ad := ad) (CA := CA) (nt := nt) (by omega) M0 x M hR) kX3_54 rfl ⟨Nat.le_of_ble_eq_true rfl, Nat.le_of_ble_eq_true rfl⟩ hl.1 rfl (Nat.le_of_ble_eq_true rfl) dX3_number_1 (fun v1 M2 H locs hp3 hW => ?_)
  obtain ⟨rfl, hM2⟩ := hp3
  refine rw_stk (st' := []) rfl ?_
  have hy := hM2
  have hyo := hy.2.2.2
  unfold tokOK at hyo
  refine lv_aload_n hx hb dX3_number_4 rfl (lv_at hl 0 rfl) ?_
  refine rw_getR hx hb hts hown hW 17 lk_17 0 18 rfl fX3_12 dX3_number_5 ?_
  refine rw_getI hx hb hts hown hW 18 lk_18 3 3 rfl rfl fX3_57 dX3_number_8 (v := (M2 18 3)) rfl ?_
  refine rw_iconst hx hb dX3_number_11 ?_
  refine rw_icmp_eq (tgt := 23) hx hb dX3_number_12 (by decide) (by omega) (by decide) (fun c_12 => ?_) (fun c_12 => ?_)
  · refine lv_aload_n hx hb dX3_number_23 rfl (lv_at hl 0 rfl) ?_
    refine rw_getR hx hb hts hown hW 17 lk_17 0 18 rfl fX3_12 dX3_number_24 ?_
    refine rw_getI hx hb hts hown hW 18 lk_18 5 5 rfl rfl fX3_137 dX3_number_27 (v := (M2 18 5)) rfl ?_
    refine lv_iload_n hx hb dX3_number_30 rfl (lv_at hl 1 rfl) ?_
    refine rw_icmp_lt (tgt := 45) hx hb dX3_number_31 (by decide) (by omega) (by omega) (fun c_31 => ?_) (fun c_31 => ?_)
    · refine lv_aload_n hx hb dX3_number_45 rfl (lv_at hl 0 rfl) ?_
      refine rw_iconst hx hb dX3_number_46 ?_
      refine rw_callV hx hb hml hts hown hW ⟨Nat.le_refl 0, Nat.le_refl 0⟩ [.int (iN 3)] 17 lk_17 rfl (c_X3_refuse (l := l) (G := G) (ad := ad) (CA := CA) (nt := nt) (by omega) 3 (by omega) (by decide) M0 (nextX (tb M0) (M0 18 1) x) M2 hy) kX3_100 rfl ⟨Nat.le_of_ble_eq_true rfl, Nat.le_of_ble_eq_true rfl⟩ hl.1 rfl (Nat.le_of_ble_eq_true rfl) dX3_number_47 (fun v4 M5 H locs hp6 hW => ?_)
      obtain ⟨rfl, hM5⟩ := hp6
      refine rw_stk (st' := []) rfl ?_
      have hz : Rd M0 M5 (numX (tb M0) (M0 18 1) lo up x) := by rw [numX, chk_B hy c_12 (Or.inl c_31)]; exact hM5
      have hzf := hz.2.1.f
      refine lv_aload_n hx hb dX3_number_50 rfl (lv_at hl 0 rfl) ?_
      refine rw_getI hx hb hts hown hW 17 lk_17 4 4 rfl rfl fX3_42 dX3_number_51 (v := (M5 17 4)) rfl ?_
      refine rw_if_ne (tgt := 67) hx hb dX3_number_54 (by decide) (by omega) (fun c_54 => ?_) (fun c_54 => ?_)
      · refine lv_iload_n hx hb dX3_number_67 rfl (lv_at hl 1 rfl) ?_
        refine rw_iret hx hb hr hlocks hW dX3_number_68 (⟨lo, rfl, ?_⟩)
        exact ⟨hz.val.1 c_54, hz⟩
      · refine lv_aload_n hx hb dX3_number_57 rfl (lv_at hl 0 rfl) ?_
        refine rw_getR hx hb hts hown hW 17 lk_17 0 18 rfl fX3_12 dX3_number_58 ?_
        refine rw_getI hx hb hts hown hW 18 lk_18 5 5 rfl rfl fX3_137 dX3_number_61 (v := (M5 18 5)) rfl ?_
        refine lv_goto (tgt := 68) hx hb dX3_number_64 (by decide) ?_
        refine rw_iret hx hb hr hlocks hW dX3_number_68 (⟨(M5 18 5), rfl, ?_⟩)
        exact ⟨hz.val.2 (by omega), hz⟩
    · refine lv_aload_n hx hb dX3_number_34 rfl (lv_at hl 0 rfl) ?_
      refine rw_getR hx hb hts hown hW 17 lk_17 0 18 rfl fX3_12 dX3_number_35 ?_
      refine rw_getI hx hb hts hown hW 18 lk_18 5 5 rfl rfl fX3_137 dX3_number_38 (v := (M2 18 5)) rfl ?_
      refine lv_iload_n hx hb dX3_number_41 rfl (lv_at hl 2 rfl) ?_
      refine rw_icmp_le (tgt := 50) hx hb dX3_number_42 (by decide) (by omega) (by omega) (fun c_42 => ?_) (fun c_42 => ?_)
      · have hz : Rd M0 M2 (numX (tb M0) (M0 18 1) lo up x) := by rw [numX, chk_C hy c_12 ⟨by omega, by omega⟩]; exact hy
        have hzf := hz.2.1.f
        refine lv_aload_n hx hb dX3_number_50 rfl (lv_at hl 0 rfl) ?_
        refine rw_getI hx hb hts hown hW 17 lk_17 4 4 rfl rfl fX3_42 dX3_number_51 (v := (M2 17 4)) rfl ?_
        refine rw_if_ne (tgt := 67) hx hb dX3_number_54 (by decide) (by omega) (fun c_54 => ?_) (fun c_54 => ?_)
        · refine lv_iload_n hx hb dX3_number_67 rfl (lv_at hl 1 rfl) ?_
          refine rw_iret hx hb hr hlocks hW dX3_number_68 (⟨lo, rfl, ?_⟩)
          exact ⟨hz.val.1 c_54, hz⟩
        · refine lv_aload_n hx hb dX3_number_57 rfl (lv_at hl 0 rfl) ?_
          refine rw_getR hx hb hts hown hW 17 lk_17 0 18 rfl fX3_12 dX3_number_58 ?_
          refine rw_getI hx hb hts hown hW 18 lk_18 5 5 rfl rfl fX3_137 dX3_number_61 (v := (M2 18 5)) rfl ?_
          refine lv_goto (tgt := 68) hx hb dX3_number_64 (by decide) ?_
          refine rw_iret hx hb hr hlocks hW dX3_number_68 (⟨(M2 18 5), rfl, ?_⟩)
          exact ⟨hz.val.2 (by omega), hz⟩
      · refine lv_aload_n hx hb dX3_number_45 rfl (lv_at hl 0 rfl) ?_
        refine rw_iconst hx hb dX3_number_46 ?_
        refine rw_callV hx hb hml hts hown hW ⟨Nat.le_refl 0, Nat.le_refl 0⟩ [.int (iN 3)] 17 lk_17 rfl (c_X3_refuse (l := l) (G := G) (ad := ad) (CA := CA) (nt := nt) (by omega) 3 (by omega) (by decide) M0 (nextX (tb M0) (M0 18 1) x) M2 hy) kX3_100 rfl ⟨Nat.le_of_ble_eq_true rfl, Nat.le_of_ble_eq_true rfl⟩ hl.1 rfl (Nat.le_of_ble_eq_true rfl) dX3_number_47 (fun v7 M8 H locs hp9 hW => ?_)
        obtain ⟨rfl, hM8⟩ := hp9
        refine rw_stk (st' := []) rfl ?_
        have hz : Rd M0 M8 (numX (tb M0) (M0 18 1) lo up x) := by rw [numX, chk_B hy c_12 (Or.inr (by omega))]; exact hM8
        have hzf := hz.2.1.f
        refine lv_aload_n hx hb dX3_number_50 rfl (lv_at hl 0 rfl) ?_
        refine rw_getI hx hb hts hown hW 17 lk_17 4 4 rfl rfl fX3_42 dX3_number_51 (v := (M8 17 4)) rfl ?_
        refine rw_if_ne (tgt := 67) hx hb dX3_number_54 (by decide) (by omega) (fun c_54 => ?_) (fun c_54 => ?_)
        · refine lv_iload_n hx hb dX3_number_67 rfl (lv_at hl 1 rfl) ?_
          refine rw_iret hx hb hr hlocks hW dX3_number_68 (⟨lo, rfl, ?_⟩)
          exact ⟨hz.val.1 c_54, hz⟩
        · refine lv_aload_n hx hb dX3_number_57 rfl (lv_at hl 0 rfl) ?_
          refine rw_getR hx hb hts hown hW 17 lk_17 0 18 rfl fX3_12 dX3_number_58 ?_
          refine rw_getI hx hb hts hown hW 18 lk_18 5 5 rfl rfl fX3_137 dX3_number_61 (v := (M8 18 5)) rfl ?_
          refine lv_goto (tgt := 68) hx hb dX3_number_64 (by decide) ?_
          refine rw_iret hx hb hr hlocks hW dX3_number_68 (⟨(M8 18 5), rfl, ?_⟩)
          exact ⟨hz.val.2 (by omega), hz⟩
  · refine lv_aload_n hx hb dX3_number_15 rfl (lv_at hl 0 rfl) ?_
    refine rw_iconst hx hb dX3_number_16 ?_
    refine rw_callV hx hb hml hts hown hW ⟨Nat.le_refl 0, Nat.le_refl 0⟩ [.int (iN 2)] 17 lk_17 rfl (c_X3_refuse (l := l) (G := G) (ad := ad) (CA := CA) (nt := nt) (by omega) 2 (by omega) (by decide) M0 (nextX (tb M0) (M0 18 1) x) M2 hy) kX3_100 rfl ⟨Nat.le_of_ble_eq_true rfl, Nat.le_of_ble_eq_true rfl⟩ hl.1 rfl (Nat.le_of_ble_eq_true rfl) dX3_number_17 (fun v10 M11 H locs hp12 hW => ?_)
    obtain ⟨rfl, hM11⟩ := hp12
    refine rw_stk (st' := []) rfl ?_
    refine lv_goto (tgt := 50) hx hb dX3_number_20 (by decide) ?_
    have hz : Rd M0 M11 (numX (tb M0) (M0 18 1) lo up x) := by rw [numX, chk_A hy c_12]; exact hM11
    have hzf := hz.2.1.f
    refine lv_aload_n hx hb dX3_number_50 rfl (lv_at hl 0 rfl) ?_
    refine rw_getI hx hb hts hown hW 17 lk_17 4 4 rfl rfl fX3_42 dX3_number_51 (v := (M11 17 4)) rfl ?_
    refine rw_if_ne (tgt := 67) hx hb dX3_number_54 (by decide) (by omega) (fun c_54 => ?_) (fun c_54 => ?_)
    · refine lv_iload_n hx hb dX3_number_67 rfl (lv_at hl 1 rfl) ?_
      refine rw_iret hx hb hr hlocks hW dX3_number_68 (⟨lo, rfl, ?_⟩)
      exact ⟨hz.val.1 c_54, hz⟩
    · refine lv_aload_n hx hb dX3_number_57 rfl (lv_at hl 0 rfl) ?_
      refine rw_getR hx hb hts hown hW 17 lk_17 0 18 rfl fX3_12 dX3_number_58 ?_
      refine rw_getI hx hb hts hown hW 18 lk_18 5 5 rfl rfl fX3_137 dX3_number_61 (v := (M11 18 5)) rfl ?_
      refine lv_goto (tgt := 68) hx hb dX3_number_64 (by decide) ?_
      refine rw_iret hx hb hr hlocks hW dX3_number_68 (⟨(M11 18 5), rfl, ?_⟩)
      exact ⟨hz.val.2 (by omega), hz⟩
theorem pow2_nat (b : Nat) : pow2 (b : Int) = ((2 ^ b : Nat) : Int) := by
  unfold pow2
  rw [Int.toNat_natCast, Int.natCast_pow]
  rfl
theorem bitB_nat (x b : Nat) : bitB (x : Int) (b : Int) = x.testBit b := by
  unfold bitB
  rw [pow2_nat, Nat.testBit_eq_decide_div_mod_eq]
  apply decide_eq_decide.mpr
  omega
theorem or_bit {x b : Int} (hx : 0 ≤ x ∧ x ≤ 511) (hb : 0 ≤ b ∧ b < 9) : (0 ≤ bor x (pow2 b) ∧ bor x (pow2 b) ≤ 511) ∧ ∀ b', 0 ≤ b' → b' < 9 → bitB (bor x (pow2 b)) b' = (bitB x b' || decide (b' = b)) := by
  obtain ⟨n, rfl⟩ : ∃ n : Nat, x = n := ⟨x.toNat, by omega⟩
  obtain ⟨k, rfl⟩ : ∃ n : Nat, b = n := ⟨b.toNat, by omega⟩
  have hp : 2 ^ k < 2 ^ 9 := Nat.pow_lt_pow_right (by decide) (by omega)
  have ho := Nat.or_lt_two_pow (n := 9) (show n < 2 ^ 9 by omega) hp
  rw [pow2_nat, bor_nat _ _ (by omega) (by omega)]
  refine ⟨⟨by omega, by omega⟩, fun b' h1 h2 => ?_⟩
  obtain ⟨j, rfl⟩ : ∃ n : Nat, b' = n := ⟨b'.toNat, by omega⟩
  rw [bitB_nat, bitB_nat, Nat.testBit_or, Nat.testBit_two_pow]
  congr 1
  apply decide_eq_decide.mpr
  omega
theorem div_pow2_rng {x b : Int} (hx : 0 ≤ x ∧ x ≤ 511) (hb : 0 ≤ b) : 0 ≤ x / pow2 b ∧ x / pow2 b ≤ 511 := by
  obtain ⟨k, rfl⟩ : ∃ n : Nat, b = n := ⟨b.toNat, by omega⟩
  rw [pow2_nat]
  have h1 : (0 : Int) ≤ ((2 ^ k : Nat) : Int) := Int.natCast_nonneg _
  exact ⟨Int.ediv_nonneg hx.1 h1, Int.le_trans (Int.ediv_le_self _ hx.1) hx.2⟩
theorem Rd.far {M0 M : Mem} {x : PX} {i : Int} (h : Rd M0 M x) (hi : 0 ≤ i ∧ i ≤ 8) : Rd M0 (upd2 M 17 3 (max (M 17 3) i)) (farX i x) := by
  obtain ⟨⟨c1, c2, c3, c4, c5⟩, hx, ht, ho⟩ := h
  have e : ∀ (q : Nat) (j : Int), ¬ (q = 17 ∧ j = 3) → upd2 M 17 3 (max (M 17 3) i) q j = M q j := fun q j hq => by rw [upd2_at, if_neg hq]
  have hc : Rc M0 (upd2 M 17 3 (max (M 17 3) i)) := ⟨fun q j hq => (e q j (by omega)).trans (c1 q j hq), by rw [e 18 2 (by omega)]; exact c2, ⟨by rw [upd2_eq]; omega, by rw [e 20 0 (by omega), e 20 1 (by omega)]; exact c3.2⟩, fun j h1 h2 => by rw [e 28 j (by omega)]; exact c4 j h1 h2, c5⟩
  have ho' : tokOK (upd2 M 17 3 (max (M 17 3) i)) := by unfold tokOK; rw [upd2_ne1 (by decide)]; exact ho
  cases x with
  | inl a =>
    obtain ⟨a1, a2, a3, a4, a5, a6, a7⟩ := hx
    exact ⟨hc, ⟨by rw [e 17 4 (by omega)]; exact a1, a2, a3, by rw [e 17 5 (by omega)]; exact a4, a5, a6, ho'⟩, trivial, ho'⟩
  | inr g =>
    obtain ⟨a1, a2, a3, a4, a5⟩ := hx
    obtain ⟨t1, t2, t3, t4⟩ := ht
    refine ⟨hc, ⟨by rw [e 17 4 (by omega)]; exact a1, by rw [e 18 2 (by omega)]; exact a2, by rw [upd2_eq, a3], ?_, fun l b h1 h2 h3 h4 => by rw [e 28 l (by omega)]; exact a5 l b h1 h2 h3 h4⟩, ⟨by rw [e 18 3 (by omega)]; exact t1, by rw [e 18 4 (by omega)]; exact t2, by rw [e 18 2 (by omega)]; exact t3, fun z => by rw [e 18 5 (by omega)]; exact t4 z⟩, ho'⟩
    exact (fld_eq8 (fun q h1 h2 => funext fun j => e q j (by omega))).trans a4
/-- the reader's memory as far as its marks may differ -/
theorem Rd.seen {M0 M : Mem} {x y : PX} {l v : Int} (h : Rd M0 M x) (hv : 0 ≤ v ∧ v ≤ 511) (hxy : (∃ a, x = .inl a ∧ y = .inl a) ∨ ∃ g n, x = .inr g ∧ y = .inr (gpos g, glp g, gfar g, n, gpg g) ∧ ∀ l' b', 0 ≤ l' → l' < 9 → 0 ≤ b' → b' < 9 → bitB (if l' = l then v else M 28 l') b' = n l' b') : Rd M0 (upd2 M 28 l v) y := by
  obtain ⟨⟨c1, c2, c3, c4, c5⟩, hx, ht, ho⟩ := h
  have e : ∀ (q : Nat) (j : Int), q ≠ 28 → upd2 M 28 l v q j = M q j := fun q j hq => by rw [upd2_ne1 hq]
  have hs : ∀ l', upd2 M 28 l v 28 l' = if l' = l then v else M 28 l' := fun l' => by
    rw [upd2_at]
    by_cases q : l' = l
    · rw [if_pos ⟨rfl, q⟩, if_pos q]
    · rw [if_neg (fun z => q z.2), if_neg q]
  have hc : Rc M0 (upd2 M 28 l v) := ⟨fun q j hq => (e q j (by omega)).trans (c1 q j hq), by rw [e 18 2 (by omega)]; exact c2, by rw [e 17 3 (by omega), e 20 0 (by omega), e 20 1 (by omega)]; exact c3, fun j h1 h2 => by rw [hs]; split; exact hv; exact c4 j h1 h2, c5⟩
  have ho' : tokOK (upd2 M 28 l v) := by unfold tokOK; rw [upd2_ne1 (by decide)]; exact ho
  rcases hxy with ⟨a, rfl, rfl⟩ | ⟨g, n, rfl, rfl, hn⟩
  · obtain ⟨a1, a2, a3, a4, a5, a6, a7⟩ := hx
    exact ⟨hc, ⟨by rw [e 17 4 (by omega)]; exact a1, a2, a3, by rw [e 17 5 (by omega)]; exact a4, a5, a6, ho'⟩, trivial, ho'⟩
  · obtain ⟨a1, a2, a3, a4, a5⟩ := hx
    obtain ⟨t1, t2, t3, t4⟩ := ht
    refine ⟨hc, ⟨by rw [e 17 4 (by omega)]; exact a1, by rw [e 18 2 (by omega)]; exact a2, by rw [e 17 3 (by omega)]; exact a3, ?_, fun l' b h1 h2 h3 h4 => by rw [hs]; exact hn l' b h1 h2 h3 h4⟩, ⟨by rw [e 18 3 (by omega)]; exact t1, by rw [e 18 4 (by omega)]; exact t2, by rw [e 18 2 (by omega)]; exact t3, fun z => by rw [e 18 5 (by omega)]; exact t4 z⟩, ho'⟩
    exact (fld_eq8 (fun q h1 h2 => funext fun j => e q j (by omega))).trans a4
theorem Rd.mark {M0 M : Mem} {x : PX} {l b : Int} (h : Rd M0 M x) (hl : 0 ≤ l ∧ l < 9) (hb : 0 ≤ b ∧ b < 9) (h0 : M 28 l / pow2 b % 2 = 0) : Rd M0 (upd2 M 28 l (bor (M 28 l) (pow2 b))) (markX (tb M0) (M0 18 1) l b x) := by
  have ob := or_bit (h.1.2.2.2.1 l hl.1 hl.2) hb
  refine h.seen ob.1 ?_
  cases x with
  | inl a => exact Or.inl ⟨a, rfl, rfl⟩
  | inr g =>
    have hn := h.2.1.2.2.2.2
    have e0 : gsn g l b = false := by
      rw [← hn l b hl.1 hl.2 hb.1 hb.2]
      unfold bitB
      rw [decide_eq_false_iff_not]
      omega
    refine Or.inr ⟨g, _, rfl, (show (if _ then _ else _) = _ by rw [if_neg (by rw [e0]; decide)]), fun l' b' h1 h2 h3 h4 => ?_⟩
    by_cases q : l' = l
    · subst q
      rw [if_pos rfl, ob.2 b' h3 h4, hn l' b' h1 h2 h3 h4]
      simp
    · rw [if_neg q, hn l' b' h1 h2 h3 h4]
      simp [q]
theorem Rd.marked {M0 M M1 : Mem} {x : PX} {l b : Int} (h : Rd M0 M x) (hl : 0 ≤ l ∧ l < 9) (hb : 0 ≤ b ∧ b < 9) (h0 : M 28 l / pow2 b % 2 ≠ 0) (h1 : Rd M0 M1 (refX (tb M0) (M0 18 1) 4 x)) : Rd M0 (upd2 M1 28 l (bor (M1 28 l) (pow2 b))) (markX (tb M0) (M0 18 1) l b x) := by
  have ob := or_bit (h1.1.2.2.2.1 l hl.1 hl.2) hb
  refine h1.seen ob.1 ?_
  cases x with
  | inl a => exact Or.inl ⟨a, rfl, rfl⟩
  | inr g =>
    have hn := h.2.1.2.2.2.2
    have e0 : gsn g l b = true := by
      rw [← hn l b hl.1 hl.2 hb.1 hb.2]
      unfold bitB
      rw [decide_eq_true_iff]
      omega
    exact Or.inl ⟨(4, tokS (tb M0) (M0 18 1) (glp g)), rfl, (show (if _ then _ else _) = _ by rw [if_pos e0])⟩
abbrev P_X3_noted (i : Int) (M0 : Mem) (x : PX) (M : Mem) : Option Value → Mem → Prop := oI (fun zz MM => zz = i ∧ Rd M0 MM (farX i x))
set_option maxRecDepth 100000 in
set_option maxHeartbeats 4000000 in
theorem c_X3_noted {l : Launch} {G : va_G} {ad : Nat → Nat} {CA : Nat → ClassId} {nt : Nat} (hnt : 6 ≤ nt) (i : Int) (hi : 0 ≤ i ∧ i ≤ 8) (M0 : Mem) (x : PX) (M : Mem) (hR : Rd M0 M x) : Mt l yX3_noted cX3_noted 2 (some .int) 1 14 G ad CA nt LyK [.ref (ad 17), .int (iN i)] M (P_X3_noted i M0 x M) := by
  refine Mt.of (by decide) (Nat.le_of_ble_eq_true rfl) (fun p e s m args below meth c hx hb hr hml hts hown hlocks hnm hW ls hl => ?_)
  have hl : lv_has ls 2 [(0, .ref (ad 17)), (1, .int (iN i))] := hl
  have hnt4 : 4 ≤ nt := by omega
  obtain ⟨H, hH⟩ : ∃ z, z = s.heap := ⟨_, rfl⟩
  obtain ⟨locs, hlo⟩ : ∃ z : List Loc, z = [] := ⟨_, rfl⟩
  rw [← hH, ← hlo] at hW ⊢
  have hq1 := hR.2.1.f
  have hq2 := hR.2.2.2
  have hq3 := hR.1.2.1
  have hq4 := hR.1.2.2.2.2
  have hq6 := hR.1.2.2.1
  refine lv_aload_n hx hb dX3_noted_0 rfl (lv_at hl 0 rfl) ?_
  refine lv_aload_n hx hb dX3_noted_1 rfl (lv_at hl 0 rfl) ?_
  refine rw_getI hx hb hts hown hW 17 lk_17 3 3 rfl rfl fX3_39 dX3_noted_2 (v := (M 17 3)) rfl ?_
  refine lv_iload_n hx hb dX3_noted_5 rfl (lv_at hl 1 rfl) ?_
  refine rw_max hx hb hml hl.1 hts hown (wm_14 _ (List.mem_of_getElem? (i := 8) rfl)) wmax_ok ⟨Nat.le_of_ble_eq_true rfl, Nat.le_of_ble_eq_true rfl⟩ ⟨Nat.le_refl 0, Nat.le_refl 0⟩ (by omega) (by omega) dX3_noted_6 ?_
  refine rw_putI hx hb hts hown hW 17 lk_17 3 3 rfl rfl qX3_39 (v := max (M 17 3) i) dX3_noted_9 (fun H locs hW => ?_)
  obtain ⟨M1, hM1⟩ : ∃ z, z = upd2 M 17 3 (max (M 17 3) i) := ⟨_, rfl⟩
  rw [← hM1] at hW
  refine lv_iload_n hx hb dX3_noted_12 rfl (lv_at hl 1 rfl) ?_
  refine rw_iret hx hb hr hlocks hW dX3_noted_13 (⟨i, rfl, ?_⟩)
  rw [hM1]; exact ⟨rfl, hR.far hi⟩
abbrev P_X3_markSeen (w : Int) (b : Int) (M0 : Mem) (x : PX) (M : Mem) : Option Value → Mem → Prop := oV (fun MM => Rd M0 MM (markX (tb M0) (M0 18 1) w b x))
set_option maxRecDepth 100000 in
set_option maxHeartbeats 4000000 in
theorem c_X3_markSeen {l : Launch} {G : va_G} {ad : Nat → Nat} {CA : Nat → ClassId} {nt : Nat} (hnt : 6 ≤ nt) (w : Int) (b : Int) (hw : 0 ≤ w ∧ w < 9) (hbb : 0 ≤ b ∧ b < 9) (M0 : Mem) (x : PX) (M : Mem) (hR : Rd M0 M x) : Mt l yX3_markSeen cX3_markSeen 3 none 1 21 G ad CA nt LyK [.ref (ad 17), .int (iN w), .int (iN b)] M (P_X3_markSeen w b M0 x M) := by
  refine Mt.of (by decide) (Nat.le_of_ble_eq_true rfl) (fun p e s m args below meth c hx hb hr hml hts hown hlocks hnm hW ls hl => ?_)
  have hl : lv_has ls 3 [(0, .ref (ad 17)), (1, .int (iN w)), (2, .int (iN b))] := hl
  have hnt4 : 4 ≤ nt := by omega
  obtain ⟨H, hH⟩ : ∃ z, z = s.heap := ⟨_, rfl⟩
  obtain ⟨locs, hlo⟩ : ∃ z : List Loc, z = [] := ⟨_, rfl⟩
  rw [← hH, ← hlo] at hW ⊢
  have hsn := hR.1.2.2.2.1 w hw.1 hw.2
  refine lv_iload_n hx hb dX3_markSeen_0 rfl (lv_at hl 1 rfl) ?_
  refine rw_if_lt (tgt := 10) hx hb dX3_markSeen_1 (by decide) (by omega) (fun c_1 => ?_) (fun c_1 => ?_)
  · omega
  · refine lv_iload_n hx hb dX3_markSeen_4 rfl (lv_at hl 1 rfl) ?_
    refine rw_bipush hx hb dX3_markSeen_5 (by decide) ?_
    refine rw_icmp_lt (tgt := 11) hx hb dX3_markSeen_7 (by decide) (by omega) (by decide) (fun c_7 => ?_) (fun c_7 => ?_)
    · refine lv_aload_n hx hb dX3_markSeen_11 rfl (lv_at hl 0 rfl) ?_
      refine rw_getR hx hb hts hown hW 17 lk_17 2 28 rfl fX3_25 dX3_markSeen_12 ?_
      refine lv_iload_n hx hb dX3_markSeen_15 rfl (lv_at hl 1 rfl) ?_
      refine rw_iald hx hb hW hnt4 28 lk_28 (by omega) (by omega) (by decide) dX3_markSeen_16 (v := (M 28 w)) rfl ?_
      refine lv_iload_n hx hb dX3_markSeen_17 rfl (lv_at hl 2 rfl) ?_
      refine rw_ishr hx hb dX3_markSeen_18 (by omega) (by omega) (by omega) (by omega) ?_
      refine rw_iconst hx hb dX3_markSeen_19 ?_
      refine rw_iand hx hb dX3_markSeen_20 ?_
      have hsn := hR.1.2.2.2.1 w hw.1 hw.2
      have hdv := div_pow2_rng hsn hbb.1
      rw [band_one hdv.1 (by omega)]
      refine rw_if_eq (tgt := 29) hx hb dX3_markSeen_21 (by decide) (by omega) (fun c_21 => ?_) (fun c_21 => ?_)
      · refine lv_aload_n hx hb dX3_markSeen_29 rfl (lv_at hl 0 rfl) ?_
        refine rw_getR hx hb hts hown hW 17 lk_17 2 28 rfl fX3_25 dX3_markSeen_30 ?_
        refine lv_iload_n hx hb dX3_markSeen_33 rfl (lv_at hl 1 rfl) ?_
        refine lv_dup2_11 hx hb dX3_markSeen_34 rfl rfl ?_
        refine rw_iald hx hb hW hnt4 28 lk_28 (by omega) (by omega) (by decide) dX3_markSeen_35 (v := (M 28 w)) rfl ?_
        refine rw_iconst hx hb dX3_markSeen_36 ?_
        refine lv_iload_n hx hb dX3_markSeen_37 rfl (lv_at hl 2 rfl) ?_
        refine rw_shl1 hx hb dX3_markSeen_38 (by omega) (by omega) ?_
        refine rw_ior hx hb dX3_markSeen_39 ?_
        refine rw_iast hx hb hW hnt4 28 lk_28 (v := bor (M 28 w) (pow2 b)) (by omega) (by omega) (by decide) dX3_markSeen_40 (fun H locs hW => ?_)
        obtain ⟨M1, hM1⟩ : ∃ z, z = upd2 M 28 w (bor (M 28 w) (pow2 b)) := ⟨_, rfl⟩
        rw [← hM1] at hW
        refine rw_vret hx hb hr hlocks hW dX3_markSeen_41 (⟨rfl, ?_⟩)
        rw [hM1]; exact hR.mark hw hbb c_21
      · refine lv_aload_n hx hb dX3_markSeen_24 rfl (lv_at hl 0 rfl) ?_
        refine rw_iconst hx hb dX3_markSeen_25 ?_
        refine rw_callV hx hb hml hts hown hW ⟨Nat.le_refl 0, Nat.le_refl 0⟩ [.int (iN 4)] 17 lk_17 rfl (c_X3_refuse (l := l) (G := G) (ad := ad) (CA := CA) (nt := nt) (by omega) 4 (by omega) (by decide) M0 x M hR) kX3_100 rfl ⟨Nat.le_of_ble_eq_true rfl, Nat.le_of_ble_eq_true rfl⟩ hl.1 rfl (Nat.le_of_ble_eq_true rfl) dX3_markSeen_26 (fun v2 M3 H locs hp4 hW => ?_)
        obtain ⟨rfl, hM3⟩ := hp4
        refine rw_stk (st' := []) rfl ?_
        refine lv_aload_n hx hb dX3_markSeen_29 rfl (lv_at hl 0 rfl) ?_
        refine rw_getR hx hb hts hown hW 17 lk_17 2 28 rfl fX3_25 dX3_markSeen_30 ?_
        refine lv_iload_n hx hb dX3_markSeen_33 rfl (lv_at hl 1 rfl) ?_
        refine lv_dup2_11 hx hb dX3_markSeen_34 rfl rfl ?_
        refine rw_iald hx hb hW hnt4 28 lk_28 (by omega) (by omega) (by decide) dX3_markSeen_35 (v := (M3 28 w)) rfl ?_
        refine rw_iconst hx hb dX3_markSeen_36 ?_
        refine lv_iload_n hx hb dX3_markSeen_37 rfl (lv_at hl 2 rfl) ?_
        refine rw_shl1 hx hb dX3_markSeen_38 (by omega) (by omega) ?_
        refine rw_ior hx hb dX3_markSeen_39 ?_
        refine rw_iast hx hb hW hnt4 28 lk_28 (v := bor (M3 28 w) (pow2 b)) (by omega) (by omega) (by decide) dX3_markSeen_40 (fun H locs hW => ?_)
        obtain ⟨M5, hM5⟩ : ∃ z, z = upd2 M3 28 w (bor (M3 28 w) (pow2 b)) := ⟨_, rfl⟩
        rw [← hM5] at hW
        refine rw_vret hx hb hr hlocks hW dX3_markSeen_41 (⟨rfl, ?_⟩)
        rw [hM5]; exact hR.marked hw hbb c_21 hM3
    · omega
