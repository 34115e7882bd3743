/-- a sheet: its object at k, its row at k + 1 -/
def HAt (Ly : List LD) (k : Nat) : Prop := Ly[k]? = some (.inl (5, [0, 0, k + 1 + 3])) ∧ Ly[k + 1]? = some (.inr (0, 40, []))
/-- stages: the object at t, the row of nine fields behind it, and one field beyond -/
def StAt (Ly : List LD) (t : Nat) : Prop := Ly[t]? = some (.inl (7, [t + 1 + 3, t + 2 + 3])) ∧ Ly[t + 1]? = some (.inr (4, 9, (List.range 9).map (fun i => t + 10 + 8 * i)))
theorem hk_227 : HAt LyK 227 := ⟨rfl, rfl⟩
theorem hk_229 : HAt LyK 229 := ⟨rfl, rfl⟩
theorem hk_231 : HAt LyK 231 := ⟨rfl, rfl⟩
theorem hk_233 : HAt LyK 233 := ⟨rfl, rfl⟩
theorem st_39 : StAt LyK 39 := ⟨rfl, rfl⟩
theorem st_123 : StAt LyK 123 := ⟨rfl, rfl⟩
theorem st_get (t : Nat) {n : Nat} (h : n < 9) : ((List.range 9).map (fun i => t + 10 + 8 * i))[n]? = some (t + 10 + 8 * n) := by
  rw [List.getElem?_map, List.getElem?_range h]; rfl
theorem fat_39 {i : Int} (h : 0 ≤ i ∧ i ≤ 8) : FAt LyK (39 + 10 + 8 * i.toNat) := by
  rcases (show i = 0 ∨ i = 1 ∨ i = 2 ∨ i = 3 ∨ i = 4 ∨ i = 5 ∨ i = 6 ∨ i = 7 ∨ i = 8 by omega) with rfl | rfl | rfl | rfl | rfl | rfl | rfl | rfl | rfl
  · exact fk_49
  · exact fk_57
  · exact fk_65
  · exact fk_73
  · exact fk_81
  · exact fk_89
  · exact fk_97
  · exact fk_105
  · exact fk_113
theorem fat_123 {i : Int} (h : 0 ≤ i ∧ i ≤ 8) : FAt LyK (123 + 10 + 8 * i.toNat) := by
  rcases (show i = 0 ∨ i = 1 ∨ i = 2 ∨ i = 3 ∨ i = 4 ∨ i = 5 ∨ i = 6 ∨ i = 7 ∨ i = 8 by omega) with rfl | rfl | rfl | rfl | rfl | rfl | rfl | rfl | rfl
  · exact fk_133
  · exact fk_141
  · exact fk_149
  · exact fk_157
  · exact fk_165
  · exact fk_173
  · exact fk_181
  · exact fk_189
  · exact fk_197
theorem i2l_eq {a : Int} (h : in32 a) : (iN a).toInt64 = jN a := by
  rw [← Int64.toInt_inj, Int32.toInt_toInt64, iN_toInt h, jN_toInt ⟨by have := h.1; omega, by have := h.2; omega⟩]
def pow8 (n : Int) : Int := (8 : Int) ^ n.toNat
theorem lshl_all : ∀ e : Fin 9, (jN 1) <<< ((iN (3 * (e.val : Int))).toInt64 &&& 63) = jN ((8 : Int) ^ e.val) := by decide +kernel
theorem lshl_eq {e : Int} (h0 : 0 ≤ e) (h1 : e ≤ 8) : (jN 1) <<< ((iN (3 * e)).toInt64 &&& 63) = jN (pow8 e) := by
  have := lshl_all ⟨e.toNat, by omega⟩
  rw [show (((⟨e.toNat, by omega⟩ : Fin 9).val : Nat) : Int) = e by show ((e.toNat : Nat) : Int) = e; omega] at this
  exact this
section RL
variable {p : Program} {l : Launch} {e : Env} {R : Room} {s : State} {m : MethodId} {args : Array Value} {below : List Frame} {meth : Method} {c : Code} {H : Heap} {locs : List Loc} {cells slots : Nat} {Q : State → Prop}
variable {cc : ByteArray} {pc : Nat} {ls : Array Slot} {rest : List Value} {G : va_G} {ad : Nat → Nat} {CA : Nat → ClassId} {nt : Nat} {Ly : List LD} {M : Mem} {A : Nat → Prop} {own : String}
theorem rw_aald (hx : p.tables.exec = Jvm.exec) (hb : c.code = cc) (hW : Wo G ad CA nt Ly A s M H locs) (hnt : 6 ≤ nt) (k : Nat) {n : Nat} {rf : List Nat} (ty : Nat) (hty : ty = 4 ∨ ty = 5) (hL : Ly[k]? = some (.inr (ty, n, rf))) {a : Int} (h0 : 0 ≤ a) (h1 : a < n) (hn : n ≤ 2147483647) (r : Nat) (hr : rf[a.toNat]? = some r) (hdg : decode cc pc = .ok (.aaload, 1))
    (kk : W p l e R s m args below meth c H locs cells slots Q (F0 m (pc + 1) ls (.ref (ad r) :: rest))) : W p l e R s m args below meth c H locs cells slots Q (F0 m pc ls (.int (iN a) :: .ref (ad k) :: rest)) := by
  have e0 : (iN a).toNatClampNeg = a.toNat := iN_nat h0 (by omega)
  rcases hty with rfl | rfl
  · refine va_aldq (D := G) hx hb hW.K hW.P k 4 (hW.cell hL) (tyL_get (by omega) rfl) (iN_vpin h0 h1 (by omega)) hdg ?_
    rw [e0, hr]
    exact kk
  · refine va_aldq (D := G) hx hb hW.K hW.P k 5 (hW.cell hL) (tyL_get (by omega) rfl) (iN_vpin h0 h1 (by omega)) hdg ?_
    rw [e0, hr]
    exact kk
theorem rw_i2l (hx : p.tables.exec = Jvm.exec) (hb : c.code = cc) {a : Int} (hdg : decode cc pc = .ok (.i2l, 1)) (ha : in32 a) (kk : W p l e R s m args below meth c H locs cells slots Q (F0 m (pc + 1) ls (.long (jN a) :: rest))) : W p l e R s m args below meth c H locs cells slots Q (F0 m pc ls (.int (iN a) :: rest)) := lv_i2l hx hb hdg (i2l_eq ha) kk
theorem rw_ladd (hx : p.tables.exec = Jvm.exec) (hb : c.code = cc) {a b : Int} (hdg : decode cc pc = .ok (.ladd, 1)) (kk : W p l e R s m args below meth c H locs cells slots Q (F0 m (pc + 1) ls (.long (jN (a + b)) :: rest))) : W p l e R s m args below meth c H locs cells slots Q (F0 m pc ls (.long (jN b) :: .long (jN a) :: rest)) := lv_ladd hx hb hdg (by rw [jN_add]; exact kk)
theorem rw_lmul (hx : p.tables.exec = Jvm.exec) (hb : c.code = cc) {a b : Int} (hdg : decode cc pc = .ok (.lmul, 1)) (kk : W p l e R s m args below meth c H locs cells slots Q (F0 m (pc + 1) ls (.long (jN (a * b)) :: rest))) : W p l e R s m args below meth c H locs cells slots Q (F0 m pc ls (.long (jN b) :: .long (jN a) :: rest)) := lv_lmul hx hb hdg (by rw [jN_mul]; exact kk)
theorem rw_lshl8 (hx : p.tables.exec = Jvm.exec) (hb : c.code = cc) {a : Int} (hdg : decode cc pc = .ok (.lshl, 1)) (h0 : 0 ≤ a) (h1 : a ≤ 8) (kk : W p l e R s m args below meth c H locs cells slots Q (F0 m (pc + 1) ls (.long (jN (pow8 a)) :: rest))) : W p l e R s m args below meth c H locs cells slots Q (F0 m pc ls (.int (iN (3 * a)) :: .long (jN 1) :: rest)) := lv_lshl hx hb hdg (lshl_eq h0 h1) kk
end RL
/-- what the machine finds, if some cells of a sheet are used from one on -/
def faultF (lane size as fr some : Int) : Int := if lane = -1 then 1 else if lane ≠ as then 3 else if fr < 0 ∨ size - some < fr then 2 else 0
/-- the lowest bits of a number, by a lane -/
def lowB (lane v : Int) : Int := if lane = 0 then (iN v).toInt8.toInt32.toInt else if lane = 1 then (iN v).toInt16.toInt32.toInt else v
/-- what comes into a spot by odds, so many minutes being left -/
def brS : Nat → (Int → Int) → Int → Int → Int
  | 0, f, w, i => if i = spotF f (f 27) then w else 0
  | n + 1, f, w, i => if f 47 ≤ f 27 then (if i = spotF f (f 27) then w * 8 ^ (n + 1) else 0) else brS n (passCap f 0) (w * (8 - f 45)) i + (if 0 < f 45 then brS n (passCap f 1) (w * f 45) i else 0)
theorem brS_0 {f : Int → Int} {w i : Int} : brS 0 f w i = if i = spotF f (f 27) then w else 0 := by rw [brS]
theorem brS_over {f : Int → Int} {w i : Int} (h : f 47 ≤ f 27) : ∀ n : Nat, brS n f w i = if i = spotF f (f 27) then w * 8 ^ n else 0
  | 0 => by rw [brS_0, Int.pow_zero, Int.mul_one]
  | n + 1 => by rw [brS, if_pos h]
theorem brS_on {f : Int → Int} {w i : Int} {n : Nat} (h : ¬ f 47 ≤ f 27) : brS (n + 1) f w i = brS n (passCap f 0) (w * (8 - f 45)) i + (if 0 < f 45 then brS n (passCap f 1) (w * f 45) i else 0) := by rw [brS, if_neg h]
theorem pow8_0 {n : Int} (h : n ≤ 0) : pow8 n = 1 := by
  unfold pow8
  rw [show n.toNat = 0 by omega]
  rfl
theorem fld_eq8 {M M' : Mem} {o : Nat} (h : ∀ q, o ≤ q → q < o + 8 → M' q = M q) : fld M' o = fld M o := by
  have e0 : M' o = M o := h o (by omega) (by omega)
  have e4 : sd M' (o + 4) = sd M (o + 4) := sd_same (h _ (by omega) (by omega)) (h _ (by omega) (by omega))
  have e6 : sd M' (o + 6) = sd M (o + 6) := sd_same (h _ (by omega) (by omega)) (h _ (by omega) (by omega))
  unfold fld
  rw [e0, h (o + 1) (by omega) (by omega), h (o + 2) (by omega) (by omega), h (o + 3) (by omega) (by omega), e4, e6]
