section RT
variable {p : Program} {l : Launch} {e : Env} {R : Room} {s : State} {m : MethodId} {args : Array Value} {below : List Frame} {meth : Method} {c : Code} {H : Heap} {locs : List Loc} {cells slots : Nat} {Q : State → Prop}
variable {cc : ByteArray} {pc : Nat} {ls : Array Slot} {rest : List Value} {G : va_G} {ad : Nat → Nat} {CA : Nat → ClassId} {nt : Nat} {Ly : List LD} {M : Mem} {A : Nat → Prop} {own : String} {post : Option Value → Mem → Prop}
theorem rw_tswK (hx : p.tables.exec = Jvm.exec) (hb : c.code = cc) {dflt lo hi : Int} {offs : Array Int} {len : Nat} {a : Int} {off : Int} {tgt : Nat} (hdg : decode cc pc = .ok (.tableswitch dflt lo hi offs, len)) (ha : in32 a) (k : Nat) (hk : a = lo + k ∧ lo + k ≤ hi) (ho : offs[k]? = some off) (ht : (pc : Int) + off = (tgt : Int))
    (kk : W p l e R s m args below meth c H locs cells slots Q (F0 m tgt ls rest)) : W p l e R s m args below meth c H locs cells slots Q (F0 m pc ls (.int (iN a) :: rest)) := by
  refine lv_tableIn hx hb hdg (by rw [iN_toInt ha]; omega) (by rw [iN_toInt ha]; omega) (off := off) ?_ ht kk
  rw [iN_toInt ha, show (a - lo).toNat = k by omega]
  exact ho
theorem rw_tswD (hx : p.tables.exec = Jvm.exec) (hb : c.code = cc) {dflt lo hi : Int} {offs : Array Int} {len : Nat} {a : Int} {tgt : Nat} (hdg : decode cc pc = .ok (.tableswitch dflt lo hi offs, len)) (ha : in32 a) (h : a < lo ∨ hi < a) (ht : (pc : Int) + dflt = (tgt : Int))
    (kk : W p l e R s m args below meth c H locs cells slots Q (F0 m tgt ls rest)) : W p l e R s m args below meth c H locs cells slots Q (F0 m pc ls (.int (iN a) :: rest)) :=
  lv_tableOut hx hb hdg (by rw [iN_toInt ha]; exact h) ht kk
theorem iN_ite_lt2 {a b : Int} (ha : in32 a) (hb : in32 b) : (if iN b < iN a then iN b else iN a) = iN (min a b) := by
  rw [Int.min_def]
  by_cases h : b < a
  · rw [if_pos ((iN_lt hb ha).mpr h), if_neg (by omega)]
  · rw [if_neg (fun q => h ((iN_lt hb ha).mp q)), if_pos (by omega)]
theorem rw_min (hx : p.tables.exec = Jvm.exec) (hb : c.code = cc) {nL : Nat} (hml : c.maxLocals = nL) (hsz : ls.size = nL) (hts : ∀ w ∈ BIG, w.before args s = true) (hown : s.vm.findClass own = some m.cls) {index : Nat} (hlink : Cond.methodLink own index Lib.Math.min.name ∈ BIG) (hw : (Cond.static Lib.Math.min.name) ∈ BIG ∧ (Cond.initialized "java/lang/Math") ∈ BIG ∧ (Cond.code Lib.Math.min.name Lib.Math.min.code 2 (some .int)) ∈ BIG) (hR : 1 ≤ R.frames ∧ (rest.map fun v => v.category).sum + 13 ≤ R.locals) (hc : cells ≤ R.cells ∧ slots ≤ R.slots) {a b : Int} (ha : in32 a) (hb' : in32 b) (hdg : decode cc pc = .ok (.invokestatic index, 3))
    (kk : W p l e R s m args below meth c H locs cells slots Q (F0 m (pc + 3) ls (.int (iN (min a b)) :: rest))) : W p l e R s m args below meth c H locs cells slots Q (F0 m pc ls (.int (iN b) :: .int (iN a) :: rest)) :=
  va_mmin hx hb (hml.trans hsz.symm) hown (hts _ hlink) (hts _ hw.1) (hts _ hw.2.1) (hts _ hw.2.2) hR.1 hR.2 hc.1 hc.2 hdg (by rw [iN_ite_lt2 ha hb']; exact kk)
/-- bit operations told on integers -/
def band (a b : Int) : Int := (iN a &&& iN b).toInt
def bor (a b : Int) : Int := (iN a ||| iN b).toInt
def bxor (a b : Int) : Int := (iN a ^^^ iN b).toInt
theorem rw_iand (hx : p.tables.exec = Jvm.exec) (hb : c.code = cc) {a b : Int} (hdg : decode cc pc = .ok (.iand, 1)) (kk : W p l e R s m args below meth c H locs cells slots Q (F0 m (pc + 1) ls (.int (iN (band a b)) :: rest))) : W p l e R s m args below meth c H locs cells slots Q (F0 m pc ls (.int (iN b) :: .int (iN a) :: rest)) := lv_iand hx hb hdg (by rw [band, iN_self] at kk; exact kk)
theorem rw_ior (hx : p.tables.exec = Jvm.exec) (hb : c.code = cc) {a b : Int} (hdg : decode cc pc = .ok (.ior, 1)) (kk : W p l e R s m args below meth c H locs cells slots Q (F0 m (pc + 1) ls (.int (iN (bor a b)) :: rest))) : W p l e R s m args below meth c H locs cells slots Q (F0 m pc ls (.int (iN b) :: .int (iN a) :: rest)) := lv_ior hx hb hdg (by rw [bor, iN_self] at kk; exact kk)
theorem rw_stk {st st' : List Value} (h : st = st') (kk : W p l e R s m args below meth c H locs cells slots Q (F0 m pc ls st')) : W p l e R s m args below meth c H locs cells slots Q (F0 m pc ls st) := h ▸ kk
end RT
def restS (g : Int → Int) : Int := g 1 + g 2 + g 3 + g 4
def ansS (g : Int → Int) (w : Int) : Int := if 0 ≤ w ∧ w ≤ 7 then g w else -1
/-! words for the class's own state -/
def BP (P : Prop) (a : Int) : Prop := (a = 1 ∧ P) ∨ (a = 0 ∧ ¬ P)
theorem BP.t {P : Prop} (h : P) : BP P 1 := Or.inl ⟨rfl, h⟩
theorem BP.f {P : Prop} (h : ¬ P) : BP P 0 := Or.inr ⟨rfl, h⟩
/-- all cells but n from o on are as they were -/
def Same (M M' : Mem) (o n : Nat) : Prop := ∀ k : Nat, k < o ∨ o + n ≤ k → M' k = M k
theorem Same.rf {M : Mem} {o n : Nat} : Same M M o n := fun _ _ => rfl
theorem Same.trans {M M1 M2 : Mem} {o n : Nat} (h : Same M M1 o n) (h2 : Same M1 M2 o n) : Same M M2 o n := fun k hk => (h2 k hk).trans (h k hk)
theorem Same.up {M M1 : Mem} {o n k : Nat} {j v : Int} (h : Same M M1 o n) (h1 : o ≤ k) (h2 : k < o + n) : Same M (upd2 M1 k j v) o n := fun q hq => (upd2_ne1 (by omega)).trans (h q hq)
theorem Same.wide {M M1 : Mem} {o n o2 n2 : Nat} (h : Same M M1 o n) (h1 : o2 ≤ o) (h2 : o + n ≤ o2 + n2) : Same M M1 o2 n2 := fun q hq => h q (by omega)
theorem Same.put {M M1 M2 : Mem} {o n o2 n2 : Nat} (h : Same M M1 o2 n2) (h' : Same M1 M2 o n) (h1 : o2 ≤ o) (h2 : o + n ≤ o2 + n2) : Same M M2 o2 n2 := h.trans (h'.wide h1 h2)
/-- a side: its object at q, its row of those who rest at q + 1 -/
def SAt (Ly : List LD) (q : Nat) : Prop := Ly[q]? = some (.inl (6, [0, q + 1 + 3, 0, 0, 0])) ∧ Ly[q + 1]? = some (.inr (0, 5, []))
/-- a field: its object at o, room, slope, hedge, both sides behind it -/
def FAt (Ly : List LD) (o : Nat) : Prop := Ly[o]? = some (.inl (0, [0, 0, 0, 0, 0, o + 1 + 3, o + 2 + 3, o + 3 + 3, o + 4 + 3, o + 6 + 3])) ∧ Ly[o + 1]? = some (.inr (0, 9, [])) ∧ Ly[o + 2]? = some (.inr (0, 9, [])) ∧ Ly[o + 3]? = some (.inr (0, 9, [])) ∧ SAt Ly (o + 4) ∧ SAt Ly (o + 6)
/-- what a side holds: 0 fresh, 1 to 4 resting, 5 fools, 6 kind, 7 number -/
def sd (M : Mem) (q : Nat) : Int → Int := fun j => if j = 0 then M q 0 else if j = 5 then M q 2 else if j = 6 then M q 3 else if j = 7 then M q 4 else if 1 ≤ j ∧ j ≤ 4 then M (q + 1) j else 0
theorem sd_ext {M : Mem} {q : Nat} {g : Int → Int} (h0 : M q 0 = g 0) (h1 : M (q + 1) 1 = g 1) (h2 : M (q + 1) 2 = g 2) (h3 : M (q + 1) 3 = g 3) (h4 : M (q + 1) 4 = g 4) (h5 : M q 2 = g 5) (h6 : M q 3 = g 6) (h7 : M q 4 = g 7) (ho : ∀ j, j < 0 ∨ 8 ≤ j → g j = 0) : sd M q = g := by
  funext j
  unfold sd
  by_cases e0 : j = 0
  · subst e0; rw [if_pos rfl, h0]
  by_cases e5 : j = 5
  · subst e5; rw [if_neg (by decide), if_pos rfl, h5]
  by_cases e6 : j = 6
  · subst e6; rw [if_neg (by decide), if_neg (by decide), if_pos rfl, h6]
  by_cases e7 : j = 7
  · subst e7; rw [if_neg (by decide), if_neg (by decide), if_neg (by decide), if_pos rfl, h7]
  rw [if_neg e0, if_neg e5, if_neg e6, if_neg e7]
  by_cases e : 1 ≤ j ∧ j ≤ 4
  · rw [if_pos e]
    rcases (show j = 1 ∨ j = 2 ∨ j = 3 ∨ j = 4 by omega) with rfl | rfl | rfl | rfl
    · exact h1
    · exact h2
    · exact h3
    · exact h4
  · rw [if_neg e]
    exact (ho j (by omega)).symm
theorem sd_0 (M : Mem) (q : Nat) : sd M q 0 = M q 0 := rfl
theorem sd_1 (M : Mem) (q : Nat) : sd M q 1 = M (q + 1) 1 := rfl
theorem sd_2 (M : Mem) (q : Nat) : sd M q 2 = M (q + 1) 2 := rfl
theorem sd_3 (M : Mem) (q : Nat) : sd M q 3 = M (q + 1) 3 := rfl
theorem sd_4 (M : Mem) (q : Nat) : sd M q 4 = M (q + 1) 4 := rfl
theorem sd_5 (M : Mem) (q : Nat) : sd M q 5 = M q 2 := rfl
theorem sd_6 (M : Mem) (q : Nat) : sd M q 6 = M q 3 := rfl
theorem sd_7 (M : Mem) (q : Nat) : sd M q 7 = M q 4 := rfl
theorem sd_out (M : Mem) (q : Nat) {j : Int} (h : j < 0 ∨ 8 ≤ j) : sd M q j = 0 := by
  unfold sd
  rw [if_neg (by omega), if_neg (by omega), if_neg (by omega), if_neg (by omega), if_neg (by omega)]
theorem sd_same {M M' : Mem} {q : Nat} (h0 : M' q = M q) (h1 : M' (q + 1) = M (q + 1)) : sd M' q = sd M q := by
  unfold sd
  rw [h0, h1]
/-- a side behind a minute: so many were sent, and rest for so long -/
def tireS (g : Int → Int) (x rest : Int) : Int → Int := fun j => if j = 0 then g 0 + g 1 - x else if 1 ≤ j ∧ j ≤ 3 then g (j + 1) + (if rest = j then x else 0) else if j = 4 then (if rest = 4 then x else 0) else g j
def pushS (g : Int → Int) (sent room : Int) : Int := max 0 (min sent room - g 5)
theorem ansS_r (M : Mem) (q : Nat) {w : Int} (h : 1 ≤ w ∧ w ≤ 4) : ansS (sd M q) w = M (q + 1) w := by
  rw [ansS, if_pos (by omega)]
  unfold sd
  rw [if_neg (by omega), if_neg (by omega), if_neg (by omega), if_neg (by omega), if_pos h]
theorem ansS_o (g : Int → Int) {w : Int} (h : w < 0 ∨ 7 < w) : ansS g w = -1 := by rw [ansS, if_neg (by omega)]
theorem ansS_k (g : Int → Int) {w : Int} (h : 0 ≤ w ∧ w ≤ 7) : ansS g w = g w := by rw [ansS, if_pos h]
theorem tireS_out {g : Int → Int} (hg : ∀ j, j < 0 ∨ 8 ≤ j → g j = 0) {x r j : Int} (h : j < 0 ∨ 8 ≤ j) : tireS g x r j = 0 := by
  unfold tireS
  rw [if_neg (by omega), if_neg (by omega), if_neg (by omega)]
  exact hg j h
/-! a field told as one page: 3 i, 3 i + 1, 3 i + 2 room, slope, hedge of cell i; 27 the keg; 28 + 8 s a side; 44 rest, 45 breaks, 46 minute, 47 cells -/
def fld (M : Mem) (o : Nat) : Int → Int := fun i => if i = 27 then M o 1 else if i = 44 then M o 2 else if i = 45 then M o 3 else if i = 46 then M o 4 else if i = 47 then M o 0 else if 28 ≤ i ∧ i < 36 then sd M (o + 4) (i - 28) else if 36 ≤ i ∧ i < 44 then sd M (o + 6) (i - 36) else if 0 ≤ i ∧ i < 27 then (if i % 3 = 0 then M (o + 1) (i / 3) else if i % 3 = 1 then M (o + 2) (i / 3) else M (o + 3) (i / 3)) else 0
theorem fld_27 (M : Mem) (o : Nat) : fld M o 27 = M o 1 := rfl
theorem fld_44 (M : Mem) (o : Nat) : fld M o 44 = M o 2 := rfl
theorem fld_45 (M : Mem) (o : Nat) : fld M o 45 = M o 3 := rfl
theorem fld_46 (M : Mem) (o : Nat) : fld M o 46 = M o 4 := rfl
theorem fld_47 (M : Mem) (o : Nat) : fld M o 47 = M o 0 := rfl
theorem fld_s0 (M : Mem) (o : Nat) {j : Int} (h : 0 ≤ j ∧ j < 8) : fld M o (28 + j) = sd M (o + 4) j := by
  unfold fld
  rw [if_neg (by omega), if_neg (by omega), if_neg (by omega), if_neg (by omega), if_neg (by omega), if_pos (by omega), show 28 + j - 28 = j by omega]
theorem fld_s1 (M : Mem) (o : Nat) {j : Int} (h : 0 ≤ j ∧ j < 8) : fld M o (36 + j) = sd M (o + 6) j := by
  unfold fld
  rw [if_neg (by omega), if_neg (by omega), if_neg (by omega), if_neg (by omega), if_neg (by omega), if_neg (by omega), if_pos (by omega), show 36 + j - 36 = j by omega]
theorem fld_r (M : Mem) (o : Nat) {i : Int} (h : 0 ≤ i ∧ i < 9) : fld M o (3 * i) = M (o + 1) i := by
  unfold fld
  rw [if_neg (by omega), if_neg (by omega), if_neg (by omega), if_neg (by omega), if_neg (by omega), if_neg (by omega), if_neg (by omega), if_pos (by omega), if_pos (by omega), show 3 * i / 3 = i by omega]
theorem fld_l (M : Mem) (o : Nat) {i : Int} (h : 0 ≤ i ∧ i < 9) : fld M o (3 * i + 1) = M (o + 2) i := by
  unfold fld
  rw [if_neg (by omega), if_neg (by omega), if_neg (by omega), if_neg (by omega), if_neg (by omega), if_neg (by omega), if_neg (by omega), if_pos (by omega), if_neg (by omega), if_pos (by omega), show (3 * i + 1) / 3 = i by omega]
theorem fld_h (M : Mem) (o : Nat) {i : Int} (h : 0 ≤ i ∧ i < 9) : fld M o (3 * i + 2) = M (o + 3) i := by
  unfold fld
  rw [if_neg (by omega), if_neg (by omega), if_neg (by omega), if_neg (by omega), if_neg (by omega), if_neg (by omega), if_neg (by omega), if_pos (by omega), if_neg (by omega), if_neg (by omega), show (3 * i + 2) / 3 = i by omega]
theorem fld_out (M : Mem) (o : Nat) {i : Int} (h : i < 0 ∨ 48 ≤ i) : fld M o i = 0 := by
  unfold fld
  rw [if_neg (by omega), if_neg (by omega), if_neg (by omega), if_neg (by omega), if_neg (by omega), if_neg (by omega), if_neg (by omega), if_neg (by omega)]
theorem fld_ext {M : Mem} {o : Nat} {g : Int → Int} (h47 : M o 0 = g 47) (h27 : M o 1 = g 27) (h44 : M o 2 = g 44) (h45 : M o 3 = g 45) (h46 : M o 4 = g 46) (hr : ∀ i, 0 ≤ i → i < 9 → M (o + 1) i = g (3 * i)) (hl : ∀ i, 0 ≤ i → i < 9 → M (o + 2) i = g (3 * i + 1)) (hh : ∀ i, 0 ≤ i → i < 9 → M (o + 3) i = g (3 * i + 2))
    (h0 : ∀ j, 0 ≤ j → j < 8 → sd M (o + 4) j = g (28 + j)) (h1 : ∀ j, 0 ≤ j → j < 8 → sd M (o + 6) j = g (36 + j)) (ho : ∀ i, i < 0 ∨ 48 ≤ i → g i = 0) : fld M o = g := by
  funext i
  by_cases hb : i < 0 ∨ 48 ≤ i
  · rw [fld_out M o hb, ho i hb]
  rcases (show i = 27 ∨ i = 44 ∨ i = 45 ∨ i = 46 ∨ i = 47 ∨ (28 ≤ i ∧ i < 36) ∨ (36 ≤ i ∧ i < 44) ∨ (0 ≤ i ∧ i < 27) by omega) with e | e | e | e | e | e | e | e
  · subst e; exact h27
  · subst e; exact h44
  · subst e; exact h45
  · subst e; exact h46
  · subst e; exact h47
  · have := fld_s0 M o (j := i - 28) (by omega)
    rw [show 28 + (i - 28) = i by omega] at this
    rw [this, h0 (i - 28) (by omega) (by omega), show 28 + (i - 28) = i by omega]
  · have := fld_s1 M o (j := i - 36) (by omega)
    rw [show 36 + (i - 36) = i by omega] at this
    rw [this, h1 (i - 36) (by omega) (by omega), show 36 + (i - 36) = i by omega]
  · rcases (show i % 3 = 0 ∨ i % 3 = 1 ∨ i % 3 = 2 by omega) with z | z | z
    · have := fld_r M o (i := i / 3) (by omega)
      rw [show 3 * (i / 3) = i by omega] at this
      rw [this, hr (i / 3) (by omega) (by omega), show 3 * (i / 3) = i by omega]
    · have := fld_l M o (i := i / 3) (by omega)
      rw [show 3 * (i / 3) + 1 = i by omega] at this
      rw [this, hl (i / 3) (by omega) (by omega), show 3 * (i / 3) + 1 = i by omega]
    · have := fld_h M o (i := i / 3) (by omega)
      rw [show 3 * (i / 3) + 2 = i by omega] at this
      rw [this, hh (i / 3) (by omega) (by omega), show 3 * (i / 3) + 2 = i by omega]
theorem fld_same {M M' : Mem} {o o2 n : Nat} (h : Same M M' o n) (h2 : o2 + 8 ≤ o ∨ o + n ≤ o2) : fld M' o2 = fld M o2 := by
  have e : ∀ k, k < 8 → M' (o2 + k) = M (o2 + k) := fun k hk => h _ (by omega)
  have e0 : M' o2 = M o2 := e 0 (by omega)
  have e4 : sd M' (o2 + 4) = sd M (o2 + 4) := sd_same (e 4 (by omega)) (e 5 (by omega))
  have e6 : sd M' (o2 + 6) = sd M (o2 + 6) := sd_same (e 6 (by omega)) (e 7 (by omega))
  unfold fld
  rw [e0, e 1 (by omega), e 2 (by omega), e 3 (by omega), e4, e6]
/-- one side of a page -/
def sdF (f : Int → Int) (s : Int) : Int → Int := fun j => if 0 ≤ j ∧ j < 8 then f (28 + 8 * s + j) else 0
theorem sdF_0 (M : Mem) (o : Nat) : sdF (fld M o) 0 = sd M (o + 4) := by
  funext j
  unfold sdF
  by_cases h : 0 ≤ j ∧ j < 8
  · rw [if_pos h, show 28 + 8 * 0 + j = 28 + j by omega, fld_s0 M o h]
  · rw [if_neg h, sd_out M _ (by omega)]
theorem sdF_1 (M : Mem) (o : Nat) : sdF (fld M o) 1 = sd M (o + 6) := by
  funext j
  unfold sdF
  by_cases h : 0 ≤ j ∧ j < 8
  · rw [if_pos h, show 28 + 8 * 1 + j = 36 + j by omega, fld_s1 M o h]
  · rw [if_neg h, sd_out M _ (by omega)]
/-- a side that can be -/
def InvS (g : Int → Int) : Prop := 0 ≤ g 0 ∧ 0 ≤ g 1 ∧ 0 ≤ g 2 ∧ 0 ≤ g 3 ∧ 0 ≤ g 4 ∧ g 0 + g 1 + g 2 + g 3 + g 4 ≤ 12 ∧ 0 ≤ g 5 ∧ g 5 ≤ 5 ∧ 0 ≤ g 6 ∧ g 6 ≤ 4 ∧ 0 ≤ g 7 ∧ g 7 ≤ 12
/-- a page that can be -/
def InvF (f : Int → Int) : Prop := (3 ≤ f 47 ∧ f 47 ≤ 9) ∧ ((0 ≤ f 27 ∧ f 27 < f 47) ∨ f 27 = 20 ∨ f 27 = 21) ∧ (1 ≤ f 44 ∧ f 44 ≤ 4) ∧ (0 ≤ f 45 ∧ f 45 ≤ 7) ∧ (0 ≤ f 46 ∧ f 46 ≤ 100000) ∧ (∀ i, 0 ≤ i → i < 9 → 1 ≤ f (3 * i) ∧ f (3 * i) ≤ 12) ∧ (∀ i, 0 ≤ i → i < 9 → 0 ≤ f (3 * i + 1) ∧ f (3 * i + 1) ≤ 6) ∧ (∀ i, 0 ≤ i → i < 9 → 0 ≤ f (3 * i + 2) ∧ f (3 * i + 2) ≤ 9) ∧ InvS (sdF f 0) ∧ InvS (sdF f 1)
def spotF (f : Int → Int) (p : Int) : Int := if p = 20 then 0 else if p = 21 then f 47 + 1 else p + 1
def distF (f : Int → Int) (s : Int) : Int := if s = 0 then spotF f (f 27) else f 47 + 1 - spotF f (f 27)
def overF (f : Int → Int) : Prop := f 47 ≤ f 27
def lateF (f : Int → Int) (s n : Int) : Prop := if s = 0 then f 47 - n ≤ f 27 else f 27 < n
def sentF (f : Int → Int) (s : Int) : Int :=
  if sdF f s 6 = 1 then sdF f s 0 / 2 else if sdF f s 6 = 2 then min (sdF f s 7) (sdF f s 0) else if sdF f s 6 = 3 then (if (if s = 0 then f 47 - sdF f s 7 ≤ f 27 else f 27 < sdF f s 7) then sdF f s 0 else 0) else if sdF f s 6 = 4 then min (sdF f (1 - s) 0) (sdF f s 0) else sdF f s 0
def netF (f : Int → Int) (x y : Int) : Int := pushS (sdF f 1) y (f (3 * f 27)) - pushS (sdF f 0) x (f (3 * f 27)) + f (3 * f 27 + 1) - 3
def hedgeF (f : Int → Int) (i : Int) : Int := if 0 ≤ i ∧ i < f 47 - 1 then f (3 * i + 2) else 0
def wayF (f : Int → Int) (net : Int) : Int := if hedgeF f (f 27) < net then 1 else if hedgeF f (f 27 - 1) < -net then -1 else 0
def shiftK (cells k way : Int) : Int := if cells ≤ k then k else if k + way < 0 then 20 else if cells ≤ k + way then 21 else k + way
def kegF (f : Int → Int) (x y out : Int) : Int := if out = 0 then shiftK (f 47) (f 27) (wayF f (netF f x y)) else shiftK (f 47) (shiftK (f 47) (f 27) (wayF f (netF f x y))) (wayF f (netF f x y))
/-- a page behind a minute -/
def passF (f : Int → Int) (x y out : Int) : Int → Int := fun i => if i = 27 then kegF f x y out else if i = 46 then f 46 + 1 else if 28 ≤ i ∧ i < 36 then tireS (sdF f 0) x (f 44) (i - 28) else if 36 ≤ i ∧ i < 44 then tireS (sdF f 1) y (f 44) (i - 36) else f i
