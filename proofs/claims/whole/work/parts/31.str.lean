/-! the class's two String constants, read only -/
def lenS : List Nat := [48, 28]
def bytS : List (List Int32) := [[99, 101, 108, 108, 115, 32, 114, 111, 111, 109, 32, 115, 108, 111, 112, 101, 32, 104, 101, 100, 103, 101, 32, 107, 101, 103, 32, 115, 105, 100, 101, 32, 102, 111, 111, 108, 115, 32, 114, 101, 115, 116, 32, 98, 114, 101, 97, 107], [97, 108, 108, 32, 104, 97, 108, 102, 32, 115, 116, 101, 97, 100, 121, 32, 108, 97, 116, 101, 32, 102, 111, 108, 108, 111, 119, 115]]
def SE (ad : Nat → Nat) (Ly : List LD) (adK adV : Nat → Nat) (U : State) : Prop :=
  (vk_R RX3 60 "cells room slope hedge keg side fools rest break" (adK 0) U ∧ vk_R RX3 124 "all half steady late follows" (adK 1) U) ∧ vk_S 2 lenS bytS adK adV (wA ad Ly) U U.heap ∧ va_Z "java/lang/String" "COMPACT_STRINGS" "Z" (.int 1) (wA ad Ly) U U.heap ∧ va_Zq "jdk/internal/util/Preconditions" "SIOOBE_FORMATTER" "Ljava/util/function/BiFunction;" (wA ad Ly) U U.heap
section SEs
variable {ad : Nat → Nat} {Ly : List LD} {adK adV : Nat → Nat}
theorem SE.keep {s U : State} (h : SE ad Ly adK adV s) (hV : s.WarmedH U.vm) (hq : ∀ a : Nat, a < s.heap.size → ¬ wA ad Ly a → U.heap[a]? = s.heap[a]?) : SE ad Ly adK adV U :=
  ⟨⟨vk_R.warm hV h.1.1, vk_R.warm hV h.1.2⟩, vk_S.moved hV.alike (h.2.1.kept hq), va_Z.moved hV.alike (h.2.2.1.kept hq), va_Zq.moved hV.alike (h.2.2.2.kept hq)⟩
theorem SE.blind {U : State} {g : JFrame} {mk : MethodId} {a : Array Value} (h : SE ad Ly adK adV U) : SE ad Ly adK adV (U.calling g mk a) :=
  ⟨⟨vk_R.same (u := U) rfl h.1.1, vk_R.same (u := U) rfl h.1.2⟩, vk_S.moved (u := U) (Vm.Alike.refl U.vm) h.2.1, va_Z.moved (u := U) (Vm.Alike.refl U.vm) h.2.2.1, va_Zq.moved (u := U) (Vm.Alike.refl U.vm) h.2.2.2⟩
end SEs
def MtE (l : Launch) (y : MethodName) (bytes : ByteArray) (maxL : Nat) (ret : Option FieldType) (fr lo : Nat) (G : va_G) (ad : Nat → Nat) (CA : Nat → ClassId) (nt : Nat) (Ly : List LD) (adK adV : Nat → Nat) (As : List Value) (M : Mem) (post : Option Value → Mem → Prop) : Prop :=
  Met l y (Cond.code y bytes maxL ret :: BIG) { frames := fr, cells := 0, slots := 0, locals := lo } (va_Pc As (fun U => Wp G ad CA nt Ly M U ∧ SE ad Ly adK adV U)) (Qg G ad CA nt Ly post) 0 0 (wA ad Ly)
theorem MtE.of {l : Launch} {y : MethodName} {bytes : ByteArray} {maxL : Nat} {ret : Option FieldType} {fr lo : Nat} {G : va_G} {ad : Nat → Nat} {CA : Nat → ClassId} {nt : Nat} {Ly : List LD} {adK adV : Nat → Nat} {As : List Value} {M : Mem} {post : Option Value → Mem → Prop} (hy : plainName y.cls = true) (hlen : (lg_sl As).length ≤ maxL)
    (body : ∀ (p : Program) (e : Env) (s : State) (m : MethodId) (args : Array Value) (below : List Frame) (meth : Method) (c : Code), p.tables.exec = Jvm.exec → c.code = bytes → meth.sig.returnType = ret → c.maxLocals = maxL → (∀ w ∈ BIG, w.before args s = true) → s.vm.findClass y.cls = some m.cls → meth.locks = false → meth.name = y.name → SE ad Ly adK adV s → Wo G ad CA nt Ly (wA ad Ly) s M s.heap [] → ∀ ls : Array Slot, lv_has ls maxL (lv_args 0 As) →
      Wf l fr lo G ad CA nt Ly post p e s m args below meth c s.heap [] (F0 m 0 ls [])) : MtE l y bytes maxL ret fr lo G ad CA nt Ly adK adV As M post := by
  refine Met.ofW (cc := bytes) (maxL := maxL) (ret := ret) hy rfl ?_
  intro p e s m args below meth c s₁ B hml hv
  obtain ⟨rfl, hv, hE⟩ := hv
  have hts := atoms_spec (ws := Cond.code y bytes maxL ret :: BIG) B.pre
  have hl := lv_entry As (n := maxL) hlen
  rw [lg_entry_eq]
  exact body p e s m As.toArray below meth c B.exec B.bytes B.returns hml (fun w h => hts w (List.mem_cons_of_mem _ h)) (findClass_of_methodNamed B.named) B.notSynchronized (name_of_methodNamed B.named B.method).1 hE (Wo.start hv) _ hl
theorem WpE.blind {G : va_G} {ad : Nat → Nat} {CA : Nat → ClassId} {nt : Nat} {Ly : List LD} {M : Mem} {As : List Value} {adK adV : Nat → Nat} : FrameBlind (va_Pc As (fun U => Wp G ad CA nt Ly M U ∧ SE ad Ly adK adV U)) := by
  intro a U g mk q
  obtain ⟨q0, q1, q2⟩ := q
  exact ⟨q0, (Wp.blind (As := As) a U g mk ⟨q0, q1⟩).2, q2.blind⟩
section RCE
variable {p : Program} {l : Launch} {e : Env} {R : Room} {s : State} {m : MethodId} {args : Array Value} {below : List Frame} {meth : Method} {c : Code} {H : Heap} {locs : List Loc} {cells slots : Nat} {Q : State → Prop}
variable {cc : ByteArray} {pc : Nat} {ls : Array Slot} {rest : List Value} {G : va_G} {ad : Nat → Nat} {CA : Nat → ClassId} {nt : Nat} {Ly : List LD} {M : Mem} {own : String} {adK adV : Nat → Nat}
variable {y : MethodName} {bytes : ByteArray} {maxL nL fr lo index n : Nat} {ret : Option FieldType} {As : List Value} {post : Option Value → Mem → Prop}
theorem Wo.preE (hW : Wo G ad CA nt Ly (wA ad Ly) s M H locs) (hE : SE ad Ly adK adV s) (As : List Value) : ∀ U : State, U.heap = H → s.WarmedH U.vm → va_Pc As (fun U => Wp G ad CA nt Ly M U ∧ SE ad Ly adK adV U) As.toArray U := fun U hU hV => ⟨rfl, (hW.pre As U hU hV).2, hE.keep hV (by rw [hU]; exact hW.S.2.1)⟩
theorem rw_callVE (hx : p.tables.exec = Jvm.exec) (hb : c.code = cc) (hml : c.maxLocals = nL) (hts : ∀ w ∈ BIG, w.before args s = true) (hown : s.vm.findClass own = some m.cls) (hW : Wo G ad CA nt Ly (wA ad Ly) s M H locs) (hE : SE ad Ly adK adV s) (hc : cells ≤ R.cells ∧ slots ≤ R.slots) (As : List Value) {b : Addr} (hrv : ∃ cellB : Cell, H[b]? = some cellB ∧ cellB.vm.isStatics = false ∧ s.vm.findClass y.cls = some cellB.cls) (hM : MtE l y bytes maxL ret fr lo G ad CA nt Ly adK adV (.ref b :: As) M post) (cw : CV own index n y bytes maxL ret) (hn : As.length = n) (hR : fr + 1 ≤ R.frames ∧ 8 + (maxL + 11) + lo ≤ R.locals) (hsz : ls.size = nL) {st : List Value} (hst : st = As.reverse ++ .ref b :: rest) (hcat : (rest.map fun v => v.category).sum ≤ 8) (hdg : decode cc pc = .ok (.invokevirtual index, 3))
    (kk : ∀ (v : Option Value) (M' : Mem) (H1 : Heap) (locs1 : List Loc), post v M' → Wo G ad CA nt Ly (wA ad Ly) s M' H1 locs1 → W p l e R s m args below meth c H1 locs1 cells slots Q (F0 m (pc + 3) ls (v.toList ++ rest))) : W p l e R s m args below meth c H locs cells slots Q (F0 m pc ls st) :=
  rw_run (va_runV (own := own) (Ts := BIG) ⟨hx, hb, hml, hown, hts⟩ hM (cw.w hts hR) ⟨WpE.blind, hrv, hW.preE hE (.ref b :: As)⟩ rfl hn hsz hst (lv_room hcat) hdg ⟨by have := hc.1; omega, by have := hc.2; omega⟩) hW (fun v M' H1 locs1 h1 h2 _ _ => kk v M' H1 locs1 h1 h2)
theorem rw_callSE (hx : p.tables.exec = Jvm.exec) (hb : c.code = cc) (hml : c.maxLocals = nL) (hts : ∀ w ∈ BIG, w.before args s = true) (hown : s.vm.findClass own = some m.cls) (hW : Wo G ad CA nt Ly (wA ad Ly) s M H locs) (hE : SE ad Ly adK adV s) (hc : cells ≤ R.cells ∧ slots ≤ R.slots) (As : List Value) (hM : MtE l y bytes maxL ret fr lo G ad CA nt Ly adK adV As M post) (cw : CS own index n y bytes maxL ret) (hn : As.length = n) (hR : fr + 1 ≤ R.frames ∧ 8 + (maxL + 11) + lo ≤ R.locals) (hsz : ls.size = nL) {st : List Value} (hst : st = As.reverse ++ rest) (hcat : (rest.map fun v => v.category).sum ≤ 8) (hdg : decode cc pc = .ok (.invokestatic index, 3))
    (kk : ∀ (v : Option Value) (M' : Mem) (H1 : Heap) (locs1 : List Loc), post v M' → Wo G ad CA nt Ly (wA ad Ly) s M' H1 locs1 → W p l e R s m args below meth c H1 locs1 cells slots Q (F0 m (pc + 3) ls (v.toList ++ rest))) : W p l e R s m args below meth c H locs cells slots Q (F0 m pc ls st) :=
  rw_run (va_runS (own := own) (Ts := BIG) ⟨hx, hb, hml, hown, hts⟩ hM (cw.w hts hR) ⟨WpE.blind, hW.preE hE As⟩ rfl hn hsz hst (lv_room hcat) hdg ⟨by have := hc.1; omega, by have := hc.2; omega⟩) hW (fun v M' H1 locs1 h1 h2 _ _ => kk v M' H1 locs1 h1 h2)
/-- the byte at a place of a constant -/
def chS (i : Nat) (k : Int) : Int := ((bytS.getD i []).getD k.toNat 0).toInt
theorem SE.recv (hE : SE ad Ly adK adV s) {i : Nat} (hi : i < 2) (hW : Wo G ad CA nt Ly (wA ad Ly) s M H locs) : ∃ cell : Cell, H[adK i]? = some cell ∧ cell.vm.isStatics = false ∧ s.vm.findClass "java/lang/String" = some cell.cls := vk_recv hE.2.1 hi hW.S
theorem rw_strV (hx : p.tables.exec = Jvm.exec) (hb : c.code = cc) (hts : ∀ w ∈ BIG, w.before args s = true) (hown : s.vm.findClass own = some m.cls) (hW : Wo G ad CA nt Ly (wA ad Ly) s M H locs) (hE : SE ad Ly adK adV s) {i : Nat} (hi : i < 2) {index : Nat} (hw : Cond.fieldLink own index "java/lang/String" "value" "[B" ∈ BIG) (hdg : decode cc pc = .ok (.getfield index, 3))
    (kk : W p l e R s m args below meth c H locs cells slots Q (F0 m (pc + 3) ls (.ref (adV i) :: rest))) : W p l e R s m args below meth c H locs cells slots Q (F0 m pc ls (.ref (adK i) :: rest)) := vk_getf hx hb (hE.2.1.1 i hi).2.2.1 hW.S hown (hts _ hw) (fun _ h => h) hdg kk
theorem rw_strC (hx : p.tables.exec = Jvm.exec) (hb : c.code = cc) (hts : ∀ w ∈ BIG, w.before args s = true) (hown : s.vm.findClass own = some m.cls) (hW : Wo G ad CA nt Ly (wA ad Ly) s M H locs) (hE : SE ad Ly adK adV s) {i : Nat} (hi : i < 2) {index : Nat} (hw : Cond.fieldLink own index "java/lang/String" "coder" "B" ∈ BIG) (hdg : decode cc pc = .ok (.getfield index, 3))
    (kk : W p l e R s m args below meth c H locs cells slots Q (F0 m (pc + 3) ls (.int (iN 0) :: rest))) : W p l e R s m args below meth c H locs cells slots Q (F0 m pc ls (.ref (adK i) :: rest)) := vk_getf hx hb (hE.2.1.1 i hi).2.1 hW.S hown (hts _ hw) (fun _ h => h) hdg kk
theorem rw_strZ (hx : p.tables.exec = Jvm.exec) (hb : c.code = cc) (hts : ∀ w ∈ BIG, w.before args s = true) (hown : s.vm.findClass own = some m.cls) (hW : Wo G ad CA nt Ly (wA ad Ly) s M H locs) (hE : SE ad Ly adK adV s) {index : Nat} (hw : Cond.fieldLink own index "java/lang/String" "COMPACT_STRINGS" "Z" ∈ BIG) (hdg : decode cc pc = .ok (.getstatic index, 3))
    (kk : W p l e R s m args below meth c H locs cells slots Q (F0 m (pc + 3) ls (.int (iN 1) :: rest))) : W p l e R s m args below meth c H locs cells slots Q (F0 m pc ls rest) := va_gets hx hb hE.2.2.1 hW.S hown (hts _ hw) (fun _ h => h) hdg kk
theorem rw_strF (hx : p.tables.exec = Jvm.exec) (hb : c.code = cc) (hts : ∀ w ∈ BIG, w.before args s = true) (hown : s.vm.findClass own = some m.cls) (hW : Wo G ad CA nt Ly (wA ad Ly) s M H locs) (hE : SE ad Ly adK adV s) {index : Nat} (hw : Cond.fieldLink own index "jdk/internal/util/Preconditions" "SIOOBE_FORMATTER" "Ljava/util/function/BiFunction;" ∈ BIG) (hdg : decode cc pc = .ok (.getstatic index, 3))
    (k1 : W p l e R s m args below meth c H locs cells slots Q (F0 m (pc + 3) ls (.null :: rest))) (k2 : ∀ t : Nat, W p l e R s m args below meth c H locs cells slots Q (F0 m (pc + 3) ls (.ref t :: rest))) : W p l e R s m args below meth c H locs cells slots Q (F0 m pc ls rest) := by
  rcases hE.2.2.2 with h | ⟨t, h⟩
  · exact va_gets hx hb h hW.S hown (hts _ hw) (fun _ h => h) hdg k1
  · exact va_gets hx hb h hW.S hown (hts _ hw) (fun _ h => h) hdg (k2 t)
theorem rw_strL (hx : p.tables.exec = Jvm.exec) (hb : c.code = cc) (hW : Wo G ad CA nt Ly (wA ad Ly) s M H locs) (hE : SE ad Ly adK adV s) {i : Nat} (hi : i < 2) (hdg : decode cc pc = .ok (.arraylength, 1))
    (kk : W p l e R s m args below meth c H locs cells slots Q (F0 m (pc + 1) ls (.int (iN (lenS.getD i 0 : Nat)) :: rest))) : W p l e R s m args below meth c H locs cells slots Q (F0 m pc ls (.ref (adV i) :: rest)) := va_tlen hx hb (hE.2.1.1 i hi).2.2.2 hW.S (v := iN (lenS.getD i 0 : Nat)) Int32.ofInt_eq_ofNat.symm hdg kk
theorem rw_strB (hx : p.tables.exec = Jvm.exec) (hb : c.code = cc) (hW : Wo G ad CA nt Ly (wA ad Ly) s M H locs) (hE : SE ad Ly adK adV s) {i : Nat} (hi : i < 2) {a : Int} (h0 : 0 ≤ a) (h1 : a < (lenS.getD i 0 : Nat)) (h2 : a ≤ 1000) (hdg : decode cc pc = .ok (.baload, 1))
    (kk : W p l e R s m args below meth c H locs cells slots Q (F0 m (pc + 1) ls (.int (iN (chS i a)) :: rest))) : W p l e R s m args below meth c H locs cells slots Q (F0 m pc ls (.int (iN a) :: .ref (adV i) :: rest)) := by
  refine va_tb hx hb (hE.2.1.1 i hi).2.2.2 hW.S (iN_vpin h0 h1 (by omega)) rfl hdg ?_
  rw [iN_nat h0 (by omega)]
  unfold chS at kk
  rw [iN_self] at kk
  exact kk
end RCE
theorem chS_all : ∀ i : Fin 2, ∀ k : Fin 48, 0 ≤ chS i.val (k.val : Int) ∧ chS i.val (k.val : Int) ≤ 127 := by decide +kernel
