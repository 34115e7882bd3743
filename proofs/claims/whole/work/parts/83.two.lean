/-! both worlds in one heap; the law's rows -/
def AL (s : State) : Nat → Prop := fun q => s.heap.size ≤ q
def Tw (G : va_G) (CA : Nat → ClassId) (ad1 ad2 : Nat → Nat) (s : State) (M S : Mem) (H : Heap) (locs : List Loc) : Prop := Wo G ad1 CA 6 LyK (AL s) s M H locs ∧ Wo G ad2 CA 6 LyM (AL s) s S H locs ∧ ∀ i j, i < LyK.length → j < LyM.length → ad1 i ≠ ad2 j
def LC (p : Program) (s : State) (m : MethodId) (args : Array Value) (c : Code) (b L : Nat) (xs : Nat → Int32) : Prop := p.tables.exec = Jvm.exec ∧ c.code = cL_law ∧ c.maxLocals = 4 ∧ (∀ w ∈ BIG, w.before args s = true) ∧ s.vm.findClass RL = some m.cls ∧ va_X b L xs s s.heap ∧ b < s.heap.size ∧ L ≤ 320
def SEL (adK adV : Nat → Nat) (U : State) : Prop :=
  (vk_R RX3 60 "cells room slope hedge keg side fools rest break" (adK 0) U ∧ vk_R RX3 124 "all half steady late follows" (adK 1) U) ∧ vk_S 2 lenS bytS adK adV (AL U) U U.heap ∧ va_Z "java/lang/String" "COMPACT_STRINGS" "Z" (.int 1) (AL U) U U.heap ∧ va_Zq "jdk/internal/util/Preconditions" "SIOOBE_FORMATTER" "Ljava/util/function/BiFunction;" (AL U) U U.heap
section LW
variable {p : Program} {l : Launch} {e : Env} {R : Room} {s : State} {m : MethodId} {args : Array Value} {below : List Frame} {meth : Method} {c : Code} {H : Heap} {locs : List Loc} {cells slots : Nat} {Q : State → Prop}
variable {pc : Nat} {ls : Array Slot} {rest : List Value} {G : va_G} {ad ad' ad1 ad2 : Nat → Nat} {CA : Nat → ClassId} {Ly Ly' : List LD} {M M' S : Mem} {b L : Nat} {xs : Nat → Int32} {adK adV : Nat → Nat}
variable {y : MethodName} {bytes : ByteArray} {maxL fr lo index n : Nat} {ret : Option FieldType} {As : List Value} {post : Option Value → Mem → Prop}
theorem Wo.other {A : Nat → Prop} {H1 : Heap} {locs1 : List Loc} (hW : Wo G ad' CA 6 Ly' A s S H locs) (hS : va_S A s.heap H1 locs1) (hf : ∀ q : Nat, q < H.size → ¬ wA ad Ly q → H1[q]? = H[q]?) (hd : ∀ i j, i < Ly.length → j < Ly'.length → ad i ≠ ad' j) : Wo G ad' CA 6 Ly' A s S H1 locs1 := by
  refine ⟨hW.P.kept (fun k q hk => hf q.1 (hW.P k q hk).lt ?_), hW.K, hW.inj, hW.dom, hS, hW.N⟩
  obtain ⟨d, hd1, rfl⟩ := wls_of ad' CA S Ly' k q hk
  rintro ⟨i, hi, h⟩
  exact hd i k hi (List.getElem?_eq_some_iff.mp hd1).1 h.symm
theorem law_call1 (C : LC p s m args c b L xs) (hT : Tw G CA ad1 ad2 s M S H locs) (hc : cells ≤ R.cells ∧ slots ≤ R.slots) (As : List Value) {T : u_T} {N : Nat} (hcl : vwCl[10]? = some (y.cls, T, N)) (hM : Mt l y bytes maxL ret fr lo G ad1 CA 6 LyK (.ref (ad1 0) :: As) M post) (cw : CV RL index n y bytes maxL ret) (hn : As.length = n) (hR : fr + 1 ≤ R.frames ∧ 8 + (maxL + 11) + lo ≤ R.locals) (hsz : ls.size = 4) {st : List Value} (hst : st = As.reverse ++ .ref (ad1 0) :: rest) (hcat : (rest.map fun v => v.category).sum ≤ 8) (hdg : decode cL_law pc = .ok (.invokevirtual index, 3))
    (kk : ∀ (v : Option Value) (M' : Mem) (H1 : Heap) (locs1 : List Loc), post v M' → Tw G CA ad1 ad2 s M' S H1 locs1 → W p l e R s m args below meth c H1 locs1 cells slots Q (F0 m (pc + 3) ls (v.toList ++ rest))) : W p l e R s m args below meth c H locs cells slots Q (F0 m pc ls st) := by
  obtain ⟨hx, hb, hml, hts, hown, -, -, -⟩ := C
  obtain ⟨hW, hV, hd⟩ := hT
  exact rw_run (va_runV (own := RL) (Ts := BIG) ⟨hx, hb, hml, hown, hts⟩ hM (cw.w hts hR) ⟨Wp.blind, va_recv hW.K hW.P hcl (hW.cell (k := 0) rfl), hW.pre (.ref (ad1 0) :: As)⟩ rfl hn hsz hst (lv_room hcat) hdg ⟨by have := hc.1; omega, by have := hc.2; omega⟩) hW (fun v M' H1 locs1 h1 h2 h3 _ => kk v M' H1 locs1 h1 ⟨h2, hV.other h2.S h3 hd, hd⟩)
theorem law_call2 (C : LC p s m args c b L xs) (hT : Tw G CA ad1 ad2 s M S H locs) (hc : cells ≤ R.cells ∧ slots ≤ R.slots) (As : List Value) {T : u_T} {N : Nat} (hcl : vwCl[11]? = some (y.cls, T, N)) (hM : Mt l y bytes maxL ret fr lo G ad2 CA 6 LyM (.ref (ad2 0) :: As) S post) (cw : CV RL index n y bytes maxL ret) (hn : As.length = n) (hR : fr + 1 ≤ R.frames ∧ 8 + (maxL + 11) + lo ≤ R.locals) (hsz : ls.size = 4) {st : List Value} (hst : st = As.reverse ++ .ref (ad2 0) :: rest) (hcat : (rest.map fun v => v.category).sum ≤ 8) (hdg : decode cL_law pc = .ok (.invokevirtual index, 3))
    (kk : ∀ (v : Option Value) (S' : Mem) (H1 : Heap) (locs1 : List Loc), post v S' → Tw G CA ad1 ad2 s M S' H1 locs1 → W p l e R s m args below meth c H1 locs1 cells slots Q (F0 m (pc + 3) ls (v.toList ++ rest))) : W p l e R s m args below meth c H locs cells slots Q (F0 m pc ls st) := by
  obtain ⟨hx, hb, hml, hts, hown, -, -, -⟩ := C
  obtain ⟨hW, hV, hd⟩ := hT
  exact rw_run (va_runV (own := RL) (Ts := BIG) ⟨hx, hb, hml, hown, hts⟩ hM (cw.w hts hR) ⟨Wp.blind, va_recv hV.K hV.P hcl (hV.cell (k := 0) rfl), hV.pre (.ref (ad2 0) :: As)⟩ rfl hn hsz hst (lv_room hcat) hdg ⟨by have := hc.1; omega, by have := hc.2; omega⟩) hV (fun v S' H1 locs1 h1 h2 h3 _ => kk v S' H1 locs1 h1 ⟨hW.other h2.S h3 (fun i j a b q => hd j i b a q.symm), h2, hd⟩)
theorem SEL.at (h : SEL adK adV s) (hdom : ∀ k, k < Ly.length → AL s (ad k)) : SE ad Ly adK adV s := by
  have hA : ∀ q, wA ad Ly q → AL s q := by
    rintro q ⟨k, hk, rfl⟩
    exact hdom k hk
  exact ⟨h.1, h.2.1.narrow hA, h.2.2.1.narrow hA, h.2.2.2.narrow hA⟩
theorem law_callE (C : LC p s m args c b L xs) (hE : SEL adK adV s) (hT : Tw G CA ad1 ad2 s M S H locs) (hc : cells ≤ R.cells ∧ slots ≤ R.slots) (As : List Value) {T : u_T} {N : Nat} (hcl : vwCl[10]? = some (y.cls, T, N)) (hM : MtE l y bytes maxL ret fr lo G ad1 CA 6 LyK adK adV (.ref (ad1 0) :: As) M post) (cw : CV RL index n y bytes maxL ret) (hn : As.length = n) (hR : fr + 1 ≤ R.frames ∧ 8 + (maxL + 11) + lo ≤ R.locals) (hsz : ls.size = 4) {st : List Value} (hst : st = As.reverse ++ .ref (ad1 0) :: rest) (hcat : (rest.map fun v => v.category).sum ≤ 8) (hdg : decode cL_law pc = .ok (.invokevirtual index, 3))
    (kk : ∀ (v : Option Value) (M' : Mem) (H1 : Heap) (locs1 : List Loc), post v M' → Tw G CA ad1 ad2 s M' S H1 locs1 → W p l e R s m args below meth c H1 locs1 cells slots Q (F0 m (pc + 3) ls (v.toList ++ rest))) : W p l e R s m args below meth c H locs cells slots Q (F0 m pc ls st) := by
  obtain ⟨hx, hb, hml, hts, hown, -, -, -⟩ := C
  obtain ⟨hW, hV, hd⟩ := hT
  refine rw_run (va_runV (own := RL) (Ts := BIG) ⟨hx, hb, hml, hown, hts⟩ hM (cw.w hts hR) ⟨WpE.blind, va_recv hW.K hW.P hcl (hW.cell (k := 0) rfl), fun U hU hVV => ⟨rfl, (hW.pre (.ref (ad1 0) :: As) U hU hVV).2, (hE.at hW.dom).keep hVV (fun a ha _ => by rw [hU]; exact hW.S.2.1 a ha (fun z => absurd ha (Nat.not_lt.mpr z)))⟩⟩ rfl hn hsz hst (lv_room hcat) hdg ⟨by have := hc.1; omega, by have := hc.2; omega⟩) hW (fun v M' H1 locs1 h1 h2 h3 _ => kk v M' H1 locs1 h1 ⟨h2, hV.other h2.S h3 hd, hd⟩)
/-- an int of the script -/
theorem law_ld (C : LC p s m args c b L xs) (hS : va_S (AL s) s.heap H locs) {lv : List (Nat × Value)} {i k : Int} (hl : lv_has ls 4 ([(3, .int (iN i))] ++ (lv ++ [(0, .ref b)]))) (hi : 0 ≤ i ∧ i + 5 ≤ L) (hk : 0 ≤ k ∧ k < 5) (d0 : decode cL_law pc = .ok (.aload_n 0, 1)) (d1 : decode cL_law (pc + 1) = .ok (.iload_n 3, 1)) (d2 : decode cL_law (pc + 1 + 1) = .ok (.iconst k, 1)) (d3 : decode cL_law (pc + 1 + 1 + 1) = .ok (.iadd, 1)) (d4 : decode cL_law (pc + 1 + 1 + 1 + 1) = .ok (.iaload, 1))
    (kk : W p l e R s m args below meth c H locs cells slots Q (F0 m (pc + 1 + 1 + 1 + 1 + 1) ls (.int (xs (i + k).toNat) :: rest))) : W p l e R s m args below meth c H locs cells slots Q (F0 m pc ls rest) := by
  obtain ⟨hx, hb, hml, hts, hown, hX, hbl, hL⟩ := C
  refine lv_aload_n hx hb d0 rfl (hl.2.2 (0, .ref b) (by simp)) ?_
  refine lv_iload_n hx hb d1 rfl (hl.2.2 (3, .int (iN i)) (by simp)) ?_
  refine rw_iconst hx hb d2 ?_
  refine rw_iadd hx hb d3 ?_
  refine va_sld (H0 := s.heap) (A := AL s) hx hb hX hbl (fun z => absurd hbl (Nat.not_lt.mpr z)) hS (iN_vpin (by omega) (by omega) (by omega)) d4 ?_
  rw [iN_nat (by omega) (by omega)]
  exact kk
end LW
