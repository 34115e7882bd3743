section RBY
variable {p : Program} {l : Launch} {e : Env} {R : Room} {s : State} {m : MethodId} {args : Array Value} {below : List Frame} {meth : Method} {c : Code} {H : Heap} {locs : List Loc} {cells slots : Nat} {Q : State → Prop}
variable {cc : ByteArray} {pc : Nat} {ls : Array Slot} {rest : List Value} {G : va_G} {ad : Nat → Nat} {CA : Nat → ClassId} {nt : Nat} {Ly : List LD} {M : Mem} {A : Nat → Prop} {own : String}
theorem rw_bast (hx : p.tables.exec = Jvm.exec) (hb : c.code = cc) (hW : Wo G ad CA nt Ly A s M H locs) (hnt : 4 ≤ nt) (k : Nat) {n : Nat} {rf : List Nat} (hL : Ly[k]? = some (.inr (2, n, rf))) {a : Int} {x : Int32} (h0 : 0 ≤ a) (h1 : a < n) (hn : n ≤ 2147483647) (hdg : decode cc pc = .ok (.bastore, 1))
    (kk : ∀ (H1 : Heap) (locs1 : List Loc), Wo G ad CA nt Ly A s (upd2 M k a (x.toInt8.toInt32).toInt) H1 locs1 → W p l e R s m args below meth c H1 locs1 cells slots Q (F0 m (pc + 1) ls rest)) : W p l e R s m args below meth c H locs cells slots Q (F0 m pc ls (.int x :: .int (iN a) :: .ref (ad k) :: rest)) := by
  refine va_bast (D := G) hx hb hW.K hW.P (wls_D hW.inj hW.dom) hW.S k 2 (hW.cell hL) (tyL_get (by omega) rfl) (iN_vpin h0 h1 (by omega)) hdg fun H1 locs1 hP _ hS => ?_
  refine kk H1 locs1 (hW.putI hL ?_ hS)
  have e : vp_nar .byte x = iN (x.toInt8.toInt32).toInt := by rw [iN_self]; rfl
  rw [e, upd_I h0 (by omega)] at hP
  exact hP
theorem rw_zast (hx : p.tables.exec = Jvm.exec) (hb : c.code = cc) (hW : Wo G ad CA nt Ly A s M H locs) (hnt : 4 ≤ nt) (k : Nat) {n : Nat} {rf : List Nat} (hL : Ly[k]? = some (.inr (3, n, rf))) {a v : Int} (h0 : 0 ≤ a) (h1 : a < n) (hn : n ≤ 2147483647) (hv : v = 0 ∨ v = 1) (hdg : decode cc pc = .ok (.bastore, 1))
    (kk : ∀ (H1 : Heap) (locs1 : List Loc), Wo G ad CA nt Ly A s (upd2 M k a v) H1 locs1 → W p l e R s m args below meth c H1 locs1 cells slots Q (F0 m (pc + 1) ls rest)) : W p l e R s m args below meth c H locs cells slots Q (F0 m pc ls (.int (iN v) :: .int (iN a) :: .ref (ad k) :: rest)) := by
  refine va_zast (D := G) hx hb hW.K hW.P (wls_D hW.inj hW.dom) hW.S k 3 (hW.cell hL) (tyL_get (by omega) rfl) (iN_vpin h0 h1 (by omega)) hdg fun H1 locs1 hP _ hS => ?_
  refine kk H1 locs1 (hW.putI hL ?_ hS)
  have e : vp_nar .boolean (iN v) = iN v := by rcases hv with rfl | rfl <;> rfl
  rw [e, upd_I h0 (by omega)] at hP
  exact hP
end RBY
/-- what the class keeps of a long, by how far it is shifted -/
def bytC (v : Int64) (sh : Int) : Int := ((v >>> ((iN sh).toInt64 &&& 63)).toInt32.toInt8.toInt32).toInt8.toInt32.toInt
def fedK (M : Mem) (v : Int64) (MM : Mem) : Prop := MM 18 1 = M 18 1 + 8 ∧ (∀ j, 0 ≤ j → j < 8 → MM 19 (M 18 1 + j) = bytC v (56 - 8 * j)) ∧ (∀ i, (i < M 18 1 ∨ M 18 1 + 8 ≤ i) → MM 19 i = M 19 i) ∧ ∀ (q : Nat) (j : Int), ¬ (q = 18 ∧ j = 1) → q ≠ 19 → MM q j = M q j
