/-! worlds that grow -/
def Clo (n : Nat) (d : LD) : Prop := match d with
  | .inl (_, cs) => ∀ c ∈ cs, c < n + 3
  | .inr (_, _, rf) => ∀ r ∈ rf, r < n
def CloL (Ly : List LD) : Prop := ∀ d ∈ Ly, Clo Ly.length d
theorem ldV_ad {ad ad' : Nat → Nat} {n c : Nat} {v : Int} (h : ∀ k, k < n → ad' k = ad k) (hc : c < n + 3) : ldV ad' c v = ldV ad c v := by
  match c, hc with
  | 0, _ => rfl
  | 1, _ => rfl
  | 2, _ => rfl
  | r + 3, hc => show Value.ref _ = Value.ref _; rw [h r (by omega)]
theorem ldS_ad {ad ad' : Nat → Nat} {n : Nat} {f : Int → Int} (h : ∀ k, k < n → ad' k = ad k) : ∀ (cs : List Nat) (j : Nat), (∀ c ∈ cs, c < n + 3) → ldS ad' f cs j = ldS ad f cs j
  | [], _, _ => rfl
  | c :: cs, j, hc => by rw [ldS, ldS, ldV_ad h (hc c List.mem_cons_self), ldS_ad h cs (j + 1) (fun x hx => hc x (List.mem_cons_of_mem _ hx))]
theorem ldA_ad {ad ad' : Nat → Nat} {n ty : Nat} {rf : List Nat} {f : Int → Int} (h : ∀ k, k < n → ad' k = ad k) (hr : ∀ r ∈ rf, r < n) : ldA ad' ty rf f = ldA ad ty rf f := by
  have e : (fun j : Nat => (rf[j]?).map ad') = (fun j : Nat => (rf[j]?).map ad) := by
    funext j
    cases q : rf[j]? with
    | none => rfl
    | some r => show some (ad' r) = some (ad r); rw [h r (hr r (List.mem_of_getElem? q))]
  unfold ldA
  split <;> first | rfl | rw [e]
theorem ldE_ad {ad ad' : Nat → Nat} {CA : Nat → ClassId} {n : Nat} {d : LD} {f : Int → Int} (h : ∀ k, k < n → ad' k = ad k) (hd : Clo n d) : ldE ad' CA d f = ldE ad CA d f := by
  match d, hd with
  | .inl (ci, cs), hd => show Sum.inr (ci, _) = Sum.inr (ci, _); rw [ldS_ad h cs 0 hd]
  | .inr (ty, m, rf), hd => show Sum.inl (CA ty, m, _) = Sum.inl (CA ty, m, _); rw [ldA_ad h hd]
theorem wls_ad {ad ad' : Nat → Nat} {CA : Nat → ClassId} {M : Mem} {n : Nat} (h : ∀ k, k < n → ad' k = ad k) : ∀ (ds : List LD) (k : Nat), (∀ d ∈ ds, Clo n d) → k + ds.length ≤ n → wls ad' CA M ds k = wls ad CA M ds k
  | [], _, _, _ => rfl
  | d :: ds, k, hd, hl => by
    rw [List.length_cons] at hl
    rw [wls, wls, h k (by omega), ldE_ad h (hd d List.mem_cons_self), wls_ad h ds (k + 1) (fun x hx => hd x (List.mem_cons_of_mem _ hx)) (by omega)]
theorem wls_app {ad : Nat → Nat} {CA : Nat → ClassId} {M : Mem} : ∀ (ds es : List LD) (k : Nat), wls ad CA M (ds ++ es) k = wls ad CA M ds k ++ wls ad CA M es (k + ds.length)
  | [], es, k => rfl
  | d :: ds, es, k => by
    rw [List.cons_append, wls, wls, wls_app ds es (k + 1), List.length_cons, show k + 1 + ds.length = k + (ds.length + 1) by omega]
    rfl
theorem wls_lo {ad : Nat → Nat} {CA : Nat → ClassId} {M M' : Mem} : ∀ (ds : List LD) (k n : Nat), k + ds.length ≤ n → (∀ q, q < n → M' q = M q) → wls ad CA M' ds k = wls ad CA M ds k
  | [], _, _, _, _ => rfl
  | d :: ds, k, n, hl, h => by
    rw [List.length_cons] at hl
    rw [wls, wls, h k (by omega), wls_lo ds (k + 1) n (by omega) h]
theorem wls_setL {ad : Nat → Nat} {CA : Nat → ClassId} {M : Mem} (d' : LD) : ∀ (ds : List LD) (k0 k : Nat) (d : LD), ds[k]? = some d → (wls ad CA M ds k0).set k (ad (k0 + k), ldE ad CA d' (M (k0 + k))) = wls ad CA M (ds.set k d') k0
  | [], _, _, _, h => by simp at h
  | d0 :: ds, k0, 0, d, h => rfl
  | d0 :: ds, k0, k + 1, d, h => by
    rw [List.getElem?_cons_succ] at h
    have h1 := wls_setL (ad := ad) (CA := CA) (M := M) d' ds (k0 + 1) k d h
    rw [show k0 + 1 + k = k0 + (k + 1) by omega] at h1
    rw [wls, List.set_cons_succ, h1, List.set_cons_succ, wls]
theorem ldS_setR (ad : Nat → Nat) (f : Int → Int) (r : Nat) : ∀ (cs : List Nat) (j0 j c : Nat), cs[j]? = some c → (ldS ad f cs j0).set j (.ref (ad r)) = ldS ad f (cs.set j (r + 3)) j0
  | [], _, _, _, h => by simp at h
  | c0 :: cs, j0, 0, c, h => rfl
  | c0 :: cs, j0, j + 1, c, h => by
    rw [List.getElem?_cons_succ] at h
    rw [ldS, List.set_cons_succ, ldS_setR ad f r cs (j0 + 1) j c h, List.set_cons_succ, ldS]
section GR
variable {p : Program} {l : Launch} {e : Env} {R : Room} {s : State} {m : MethodId} {args : Array Value} {below : List Frame} {meth : Method} {c : Code} {H : Heap} {locs : List Loc} {cells slots : Nat} {Q : State → Prop}
variable {cc : ByteArray} {pc : Nat} {ls : Array Slot} {rest : List Value} {G : va_G} {ad : Nat → Nat} {CA : Nat → ClassId} {Ly : List LD} {M : Mem} {A : Nat → Prop} {own : String}
def adN (ad : Nat → Nat) (n q : Nat) : Nat → Nat := fun k => if k = n then q else ad k
theorem adN_lt {ad : Nat → Nat} {n q k : Nat} (h : k < n) : adN ad n q k = ad k := if_neg (by omega)
theorem adN_eq {ad : Nat → Nat} {n q : Nat} : adN ad n q n = q := if_pos rfl
/-- one cell more -/
theorem Wo.app {q : Nat} {H1 : Heap} {d : LD} {g : Int → Int} (hW : Wo G ad CA 6 Ly A s M H locs) (hcl : CloL Ly) (hP : va_P G vwCl (wls ad CA M Ly 0 ++ [(q, ldE (adN ad Ly.length q) CA d g)]) H1) (hD : va_D A (wls ad CA M Ly 0 ++ [(q, ldE (adN ad Ly.length q) CA d g)])) (hS : va_S A s.heap H1 locs) : Wo G (adN ad Ly.length q) CA 6 (Ly ++ [d]) A s (updR M Ly.length g) H1 locs := by
  have e : wls (adN ad Ly.length q) CA (updR M Ly.length g) (Ly ++ [d]) 0 = wls ad CA M Ly 0 ++ [(q, ldE (adN ad Ly.length q) CA d g)] := by
    rw [wls_app, wls_ad (ad := ad) (n := Ly.length) (fun k hk => adN_lt hk) Ly 0 hcl (by omega), wls_lo Ly 0 Ly.length (by omega) (fun k hk => updR_ne (by omega))]
    congr 1
    show [(adN ad Ly.length q (0 + Ly.length), ldE _ CA d (updR M Ly.length g (0 + Ly.length)))] = _
    rw [Nat.zero_add, adN_eq, updR_eq]
  rw [← e] at hP hD
  have at' : ∀ i, i < (Ly ++ [d]).length → ∃ z, (wls (adN ad Ly.length q) CA (updR M Ly.length g) (Ly ++ [d]) 0)[i]? = some (adN ad Ly.length q i, z) := by
    intro i hi
    have h1 : (Ly ++ [d])[i]? = some (Ly ++ [d])[i] := List.getElem?_eq_some_iff.mpr ⟨hi, rfl⟩
    have h2 := wls_get (adN ad Ly.length q) CA (updR M Ly.length g) (Ly ++ [d]) 0 i _ h1
    rw [Nat.zero_add] at h2
    exact ⟨_, h2⟩
  refine ⟨hP, hW.K, fun i j hi hj h => ?_, fun k hk => ?_, hS, hW.N⟩
  · obtain ⟨z1, e1⟩ := at' i hi
    obtain ⟨z2, e2⟩ := at' j hj
    exact hD.1 i j _ _ e1 e2 h
  · obtain ⟨z1, e1⟩ := at' k hk
    exact hD.2 k _ e1
theorem tyL6 (CA : Nat → ClassId) : tyL CA 6 = tyAll CA := rfl
theorem ty_4 (CA : Nat → ClassId) : (tyL CA 6)[4]? = some (CA 4, .object "KegBrooks$Field") := rfl
theorem ty_5 (CA : Nat → ClassId) : (tyL CA 6)[5]? = some (CA 5, .object "KegBrooks$Sheet") := rfl
theorem cl_0 : vwCl[0]? = some ("KegBrooks$Field", TX0, 10) := rfl
theorem cl_5 : vwCl[5]? = some ("KegBrooks$Sheet", TX5, 3) := rfl
theorem rw_newA (hx : p.tables.exec = Jvm.exec) (hb : c.code = cc) (hts : ∀ w ∈ BIG, w.before args s = true) (hW : Wo G ad CA 6 Ly A s M H locs) (hcl : CloL Ly) (hA : ∀ q, s.heap.size ≤ q → A q) {atype : ArrayType} (t : Nat) (hin : Cond.arrayClass (newarray.typeOf atype) ∈ BIG) (ht : (t = 0 ∧ atype = .int) ∨ (t = 1 ∧ atype = .long) ∨ (t = 2 ∧ atype = .byte) ∨ (t = 3 ∧ atype = .boolean)) {n : Int} {N : Nat} (hN : n = (N : Int)) (hn : N ≤ 1000) (hc : cells + 1 ≤ R.cells) (hs : slots + N ≤ R.slots) (hdg : decode cc pc = .ok (.newarray atype, 2))
    (kk : ∀ (q : Nat) (H1 : Heap), Wo G (adN ad Ly.length q) CA 6 (Ly ++ [.inr (t, N, [])]) A s (updR M Ly.length (fun _ => 0)) H1 locs → W p l e R s m args below meth c H1 locs (cells + 1) (slots + N) Q (F0 m (pc + 2) ls (.ref (adN ad Ly.length q Ly.length) :: rest))) : W p l e R s m args below meth c H locs cells slots Q (F0 m pc ls (.int (iN n) :: rest)) := by
  subst hN
  have h0 : ¬ iN (N : Int) < 0 := by rw [show (0 : Int32) = iN 0 from rfl, iN_lt (by omega) (by decide)]; omega
  have h1 : (iN (N : Int)).toNatClampNeg = N := by rw [iN_nat (by omega) (by omega)]; omega
  rcases ht with ⟨rfl, rfl⟩ | ⟨rfl, rfl⟩ | ⟨rfl, rfl⟩ | ⟨rfl, rfl⟩
  · refine va_newa (D := G) (ty := .int) (a0 := (N, ldA ad 0 [] (fun _ => 0))) hx hb (hts _ hin) rfl hW.K hW.P (wls_D hW.inj hW.dom) hW.S hA (fun cA => rfl) h0 h1 (by show N * 4 ≤ _; omega) hc hs hdg fun q cA H1 hK hP hD hS => ?_
    have e : cA = CA 0 := by
      have z1 := (hK.2 6 (cA, .int) rfl).2
      have z2 := (hK.2 0 (CA 0, .int) rfl).2
      exact Option.some.inj ((show s.vm.findClass _ = some cA from z1).symm.trans z2)
    subst e
    rw [show (Value.ref q) = .ref (adN ad Ly.length q Ly.length) by rw [adN_eq]]
    exact kk q H1 (hW.app (d := .inr (0, N, [])) (g := fun _ => 0) hcl hP hD hS)
  · refine va_newa (D := G) (ty := .long) (a0 := (N, ldA ad 1 [] (fun _ => 0))) hx hb (hts _ hin) rfl hW.K hW.P (wls_D hW.inj hW.dom) hW.S hA (fun cA => rfl) h0 h1 (by show N * 8 ≤ _; omega) hc hs hdg fun q cA H1 hK hP hD hS => ?_
    have e : cA = CA 1 := by
      have z1 := (hK.2 6 (cA, .long) rfl).2
      have z2 := (hK.2 1 (CA 1, .long) rfl).2
      exact Option.some.inj ((show s.vm.findClass _ = some cA from z1).symm.trans z2)
    subst e
    rw [show (Value.ref q) = .ref (adN ad Ly.length q Ly.length) by rw [adN_eq]]
    exact kk q H1 (hW.app (d := .inr (1, N, [])) (g := fun _ => 0) hcl hP hD hS)
  · refine va_newa (D := G) (ty := .byte) (a0 := (N, ldA ad 2 [] (fun _ => 0))) hx hb (hts _ hin) rfl hW.K hW.P (wls_D hW.inj hW.dom) hW.S hA (fun cA => rfl) h0 h1 (by show N * 1 ≤ _; omega) hc hs hdg fun q cA H1 hK hP hD hS => ?_
    have e : cA = CA 2 := by
      have z1 := (hK.2 6 (cA, .byte) rfl).2
      have z2 := (hK.2 2 (CA 2, .byte) rfl).2
      exact Option.some.inj ((show s.vm.findClass _ = some cA from z1).symm.trans z2)
    subst e
    rw [show (Value.ref q) = .ref (adN ad Ly.length q Ly.length) by rw [adN_eq]]
    exact kk q H1 (hW.app (d := .inr (2, N, [])) (g := fun _ => 0) hcl hP hD hS)
  · refine va_newa (D := G) (ty := .boolean) (a0 := (N, ldA ad 3 [] (fun _ => 0))) hx hb (hts _ hin) rfl hW.K hW.P (wls_D hW.inj hW.dom) hW.S hA (fun cA => rfl) h0 h1 (by show N * 1 ≤ _; omega) hc hs hdg fun q cA H1 hK hP hD hS => ?_
    have e : cA = CA 3 := by
      have z1 := (hK.2 6 (cA, .boolean) rfl).2
      have z2 := (hK.2 3 (CA 3, .boolean) rfl).2
      exact Option.some.inj ((show s.vm.findClass _ = some cA from z1).symm.trans z2)
    subst e
    rw [show (Value.ref q) = .ref (adN ad Ly.length q Ly.length) by rw [adN_eq]]
    exact kk q H1 (hW.app (d := .inr (3, N, [])) (g := fun _ => 0) hcl hP hD hS)
/-- an object is made -/
def FN2 (own : String) (index ci N : Nat) (dc : List Nat) : Prop := ∃ (C : String) (T : u_T) (ty : Nat → FieldType), vwCl[ci]? = some (C, T, N) ∧ (∀ w ∈ u_ws C T N, w ∈ BIG) ∧ (∀ k, k < N → parseFieldDescriptor (T k).2.2.1 = some (ty k)) ∧ Cond.classLink own index C ∈ BIG ∧ Cond.instantiable C N ∈ BIG ∧ Cond.initialized C ∈ BIG ∧ (∀ c ∈ dc, c < 3) ∧ (∀ j, j < N → ∀ ad : Nat → Nat, defaultValue (ty j) = vp_V (ldS ad (fun _ => 0) dc 0) j)
theorem rw_newO (hx : p.tables.exec = Jvm.exec) (hb : c.code = cc) (hts : ∀ w ∈ BIG, w.before args s = true) (hown : s.vm.findClass own = some m.cls) (hW : Wo G ad CA 6 Ly A s M H locs) (hcl : CloL Ly) (hA : ∀ q, s.heap.size ≤ q → A q) {index ci N : Nat} {dc : List Nat} (hf : FN2 own index ci N dc) (hc : cells + 1 ≤ R.cells) (hs : slots + N ≤ R.slots) (hdg : decode cc pc = .ok (.new index, 3))
    (kk : ∀ (q : Nat) (H1 : Heap), Wo G (adN ad Ly.length q) CA 6 (Ly ++ [.inl (ci, dc)]) A s (updR M Ly.length (fun _ => 0)) H1 locs → W p l e R s m args below meth c H1 locs (cells + 1) (slots + N) Q (F0 m (pc + 3) ls (.ref (adN ad Ly.length q Ly.length) :: rest))) : W p l e R s m args below meth c H locs cells slots Q (F0 m pc ls rest) := by
  obtain ⟨C, T, ty, hci, hin, hty, hcl2, hinst, hini, hdc, hdef⟩ := hf
  refine va_new (D := G) (ci := ci) (fs := ldS ad (fun _ => 0) dc 0) hx hb hts hin ty hty hown (hts _ hcl2) (hts _ hinst) (hts _ hini) hW.K hW.P (wls_D hW.inj hW.dom) hW.S hA hci (fun j hj => hdef j hj ad) hc hs hdg fun q H1 hP hD hS => ?_
  have e : (Sum.inr (ci, ldS ad (fun _ => 0) dc 0) : va_E) = ldE (adN ad Ly.length q) CA (.inl (ci, dc)) (fun _ => 0) := by
    show Sum.inr (ci, _) = Sum.inr (ci, _)
    rw [ldS_ad (ad := ad) (ad' := adN ad Ly.length q) (n := 0) (fun k hk => absurd hk (by omega)) dc 0 hdc]
  rw [e] at hP hD
  rw [show (Value.ref q) = .ref (adN ad Ly.length q Ly.length) by rw [adN_eq]]
  exact kk q H1 (hW.app hcl hP hD hS)
/-- an array of references is made -/
theorem rw_newQ (hx : p.tables.exec = Jvm.exec) (hb : c.code = cc) (hts : ∀ w ∈ BIG, w.before args s = true) (hown : s.vm.findClass own = some m.cls) (hW : Wo G ad CA 6 Ly A s M H locs) (hcl : CloL Ly) (hA : ∀ q, s.heap.size ≤ q → A q) {index : Nat} {C : String} (hlink : Cond.classLink own index C ∈ BIG) (hover : va_AO C s) (t : Nat) (ht : (t = 4 ∧ C = "KegBrooks$Field") ∨ (t = 5 ∧ C = "KegBrooks$Sheet")) {n : Int} {N : Nat} (hN : n = (N : Int)) (hn : N ≤ 1000) (hc : cells + 1 ≤ R.cells) (hs : slots + N ≤ R.slots) (hdg : decode cc pc = .ok (.anewarray index, 3))
    (kk : ∀ (q : Nat) (H1 : Heap), Wo G (adN ad Ly.length q) CA 6 (Ly ++ [.inr (t, N, [])]) A s (updR M Ly.length (fun _ => 0)) H1 locs → W p l e R s m args below meth c H1 locs (cells + 1) (slots + N) Q (F0 m (pc + 3) ls (.ref (adN ad Ly.length q Ly.length) :: rest))) : W p l e R s m args below meth c H locs cells slots Q (F0 m pc ls (.int (iN n) :: rest)) := by
  subst hN
  have h0 : ¬ iN (N : Int) < 0 := by rw [show (0 : Int32) = iN 0 from rfl, iN_lt (by omega) (by decide)]; omega
  have h1 : (iN (N : Int)).toNatClampNeg = N := by rw [iN_nat (by omega) (by omega)]; omega
  refine va_newq (D := G) hx hb hown (hts _ hlink) hover hW.K hW.P (wls_D hW.inj hW.dom) hW.S hA h0 h1 (by omega) hc hs hdg fun q cA H1 hK hP hD hS => ?_
  rw [show (Value.ref q) = .ref (adN ad Ly.length q Ly.length) by rw [adN_eq]]
  rcases ht with ⟨rfl, rfl⟩ | ⟨rfl, rfl⟩
  · have e : cA = CA 4 := by
      obtain ⟨kA, comp, -, -, -, z1⟩ := (hK.2 6 (cA, .object "KegBrooks$Field") rfl).2
      obtain ⟨kB, comp2, -, -, -, z2⟩ := (hK.2 4 (CA 4, .object "KegBrooks$Field") rfl).2
      exact Option.some.inj (z1.symm.trans z2)
    subst e
    exact kk q H1 (hW.app (d := .inr (4, N, [])) (g := fun _ => 0) hcl hP hD hS)
  · have e : cA = CA 5 := by
      obtain ⟨kA, comp, -, -, -, z1⟩ := (hK.2 6 (cA, .object "KegBrooks$Sheet") rfl).2
      obtain ⟨kB, comp2, -, -, -, z2⟩ := (hK.2 5 (CA 5, .object "KegBrooks$Sheet") rfl).2
      exact Option.some.inj (z1.symm.trans z2)
    subst e
    exact kk q H1 (hW.app (d := .inr (5, N, [])) (g := fun _ => 0) hcl hP hD hS)
theorem Wo.setL {k : Nat} {d d' : LD} {H1 : Heap} {locs1 : List Loc} (hW : Wo G ad CA 6 Ly A s M H locs) (hL : Ly[k]? = some d) (hP : va_P G vwCl ((wls ad CA M Ly 0).set k (ad k, ldE ad CA d' (M k))) H1) (hS : va_S A s.heap H1 locs1) : Wo G ad CA 6 (Ly.set k d') A s M H1 locs1 := by
  have h := wls_setL (ad := ad) (CA := CA) (M := M) d' Ly 0 k d hL
  rw [Nat.zero_add] at h
  rw [h] at hP
  exact ⟨hP, hW.K, fun i j hi hj => hW.inj i j (by rwa [List.length_set] at hi) (by rwa [List.length_set] at hj), fun i hi => hW.dom i (by rwa [List.length_set] at hi), hS, hW.N⟩
theorem rw_aast (hx : p.tables.exec = Jvm.exec) (hb : c.code = cc) (hW : Wo G ad CA 6 Ly A s M H locs) (k : Nat) {N : Nat} {rf : List Nat} (t : Nat) (hL : Ly[k]? = some (.inr (t, N, rf))) (r : Nat) {ci : Nat} {cs : List Nat} (hR : Ly[r]? = some (.inl (ci, cs))) (ht : (t = 4 ∧ ci = 0) ∨ (t = 5 ∧ ci = 5)) {a : Int} (ha : a = (rf.length : Int)) (hlt : rf.length < N) (hn : N ≤ 1000) (hdg : decode cc pc = .ok (.aastore, 1))
    (kk : ∀ (H1 : Heap) (locs1 : List Loc), Wo G ad CA 6 (Ly.set k (.inr (t, N, rf ++ [r]))) A s M H1 locs1 → W p l e R s m args below meth c H1 locs1 cells slots Q (F0 m (pc + 1) ls rest)) : W p l e R s m args below meth c H locs cells slots Q (F0 m pc ls (.ref (ad r) :: .int (iN a) :: .ref (ad k) :: rest)) := by
  subst ha
  have e : ∀ ty : Nat, (ty = 4 ∨ ty = 5) → (Sum.inl (CA ty, N, Sum.inr (.inr (.inr (.inr (va_up (fun j => (rf[j]?).map ad) (iN (rf.length : Int)).toNatClampNeg (some (ad r))))))) : va_E) = ldE ad CA (.inr (ty, N, rf ++ [r])) (M k) := by
    intro ty hty
    have e2 : (va_up (fun j => (rf[j]?).map ad) (iN (rf.length : Int)).toNatClampNeg (some (ad r))) = (fun j : Nat => ((rf ++ [r])[j]?).map ad) := by
      funext j
      unfold va_up
      rw [iN_nat (by omega) (by omega), show ((rf.length : Int)).toNat = rf.length by omega]
      by_cases hj : j = rf.length
      · subst hj; rw [if_pos rfl, List.getElem?_append_right (Nat.le_refl _), Nat.sub_self]; rfl
      · rw [if_neg hj]
        by_cases h2 : j < rf.length
        · rw [List.getElem?_append_left h2]
        · have z1 : rf[j]? = none := List.getElem?_eq_none (by omega)
          have z2 : (rf ++ [r])[j]? = none := List.getElem?_eq_none (by rw [List.length_append]; show rf.length + 1 ≤ j; omega)
          show (rf[j]?).map ad = ((rf ++ [r])[j]?).map ad
          rw [z1, z2]
    rw [e2]
    rcases hty with rfl | rfl <;> rfl
  rcases ht with ⟨rfl, rfl⟩ | ⟨rfl, rfl⟩
  · refine va_astq (D := G) (cl := vwCl) (tys := tyL CA 6) hx hb hW.K hW.P (wls_D hW.inj hW.dom) hW.S k 4 r 0 (hW.cell hL) (ty_4 CA) (hW.cell hR) cl_0 (iN_vpin (by omega) (by omega) (by omega)) hdg fun H1 locs1 hP _ hS => kk H1 locs1 (hW.setL hL ?_ hS)
    rw [← e 4 (Or.inl rfl)]; exact hP
  · refine va_astq (D := G) (cl := vwCl) (tys := tyL CA 6) hx hb hW.K hW.P (wls_D hW.inj hW.dom) hW.S k 5 r 5 (hW.cell hL) (ty_5 CA) (hW.cell hR) cl_5 (iN_vpin (by omega) (by omega) (by omega)) hdg fun H1 locs1 hP _ hS => kk H1 locs1 (hW.setL hL ?_ hS)
    rw [← e 5 (Or.inr rfl)]; exact hP
/-- a final field of references, in a constructor -/
theorem rw_putRF (hx : p.tables.exec = Jvm.exec) (hb : c.code = cc) (hts : ∀ w ∈ BIG, w.before args s = true) (hown : s.vm.findClass own = some m.cls) (hin2 : meth.name = "<init>") (hW : Wo G ad CA 6 Ly A s M H locs) (k : Nat) {ci : Nat} {cs : List Nat} (hL : Ly[k]? = some (.inl (ci, cs))) (j : Nat) {cd : Nat} (hj : cs[j]? = some cd) (r : Nat) {index : Nat} {ty : FieldType} (hf : FP own index ci j true ty) (hn : ∀ q, narrow ty (.ref q) = .ref q ∧ fits ty (.ref q) = true) (hdg : decode cc pc = .ok (.putfield index, 3))
    (kk : ∀ (H1 : Heap) (locs1 : List Loc), Wo G ad CA 6 (Ly.set k (.inl (ci, cs.set j (r + 3)))) A s M H1 locs1 → W p l e R s m args below meth c H1 locs1 cells slots Q (F0 m (pc + 3) ls rest)) : W p l e R s m args below meth c H locs cells slots Q (F0 m pc ls (.ref (ad r) :: .ref (ad k) :: rest)) := by
  obtain ⟨C, T, N, ty0, hc, hjN, hin, hlink, hty, hnm, hfin, hdecl, hd⟩ := hf
  have hlen : j < (ldS ad (M k) cs 0).length := by rw [ldS_len]; exact (List.getElem?_eq_some_iff.mp hj).1
  refine va_putF (D := G) hx hb hts hin ty0 hty hnm hown hW.K hW.P (wls_D hW.inj hW.dom) hW.S k (hW.cell hL) hc j hjN (hts _ hlink) (fun _ h => h) hfin hin2 hdecl hd (hn _).1 (hn _).2 hlen hdg fun H1 locs1 hP _ hS => kk H1 locs1 (hW.setL hL ?_ hS)
  have h2 := ldS_setR ad (M k) r cs 0 j cd hj
  rw [h2] at hP
  exact hP
end GR
/-! constructors: contracts of a world that grows -/
def AG (ad : Nat → Nat) (Ly : List LD) (sz : Nat) : Nat → Prop := fun q => wA ad Ly q ∨ sz ≤ q
def QgG (G : va_G) (ad : Nat → Nat) (CA : Nat → ClassId) (Ly Ly' : List LD) (post : Mem → Prop) (sz : Nat) : Array Value → State → Outcome → State → Prop := fun _ st oc t => (∃ (ad' : Nat → Nat) (M' : Mem), oc = .returned none ∧ (∀ k, k < Ly.length → ad' k = ad k) ∧ (∀ k, Ly.length ≤ k → k < Ly'.length → sz ≤ ad' k) ∧ post M' ∧ Wp G ad' CA 6 Ly' M' t) ∧ va_F (AG ad Ly sz) st t
def AOs (U : State) : Prop := va_AO "KegBrooks$Field" U ∧ va_AO "KegBrooks$Sheet" U
theorem AOs.moved {u U : State} (h : u.vm.Alike U.vm) (a : AOs u) : AOs U := ⟨va_AO.moved h a.1, va_AO.moved h a.2⟩
def MtG (l : Launch) (y : MethodName) (bytes : ByteArray) (maxL fr nc ns lo : Nat) (G : va_G) (ad : Nat → Nat) (CA : Nat → ClassId) (Ly Ly' : List LD) (As : List Value) (M : Mem) (post : Mem → Prop) (sz : Nat) : Prop :=
  Met l y (Cond.code y bytes maxL none :: BIG) { frames := fr, cells := nc, slots := ns, locals := lo } (va_Pc As (fun U => (U.heap.size = sz ∧ AOs U) ∧ Wp G ad CA 6 Ly M U)) (QgG G ad CA Ly Ly' post sz) nc ns (AG ad Ly sz)
abbrev WfG (l : Launch) (fr nc ns lo : Nat) (G : va_G) (ad : Nat → Nat) (CA : Nat → ClassId) (Ly Ly' : List LD) (post : Mem → Prop) (p : Program) (e : Env) (s : State) (m : MethodId) (args : Array Value) (below : List Frame) (meth : Method) (c : Code) (H : Heap) (locs : List Loc) (cells slots : Nat) (g : JFrame) : Prop :=
  W p l e { frames := fr, cells := nc, slots := ns, locals := lo } s m args below meth c H locs cells slots (MQ below (QgG G ad CA Ly Ly' post s.heap.size) args s nc ns (AG ad Ly s.heap.size)) g
theorem MtG.of {l : Launch} {y : MethodName} {bytes : ByteArray} {maxL fr nc ns lo : Nat} {G : va_G} {ad : Nat → Nat} {CA : Nat → ClassId} {Ly Ly' : List LD} {As : List Value} {M : Mem} {post : Mem → Prop} {sz : Nat} (hy : plainName y.cls = true) (hlen : (lg_sl As).length ≤ maxL)
    (body : ∀ (p : Program) (e : Env) (s : State) (m : MethodId) (args : Array Value) (below : List Frame) (meth : Method) (c : Code), p.tables.exec = Jvm.exec → c.code = bytes → meth.sig.returnType = none → c.maxLocals = maxL → (∀ w ∈ BIG, w.before args s = true) → s.vm.findClass y.cls = some m.cls → meth.locks = false → meth.name = y.name → AOs s → (∀ q, s.heap.size ≤ q → AG ad Ly s.heap.size q) → Wo G ad CA 6 Ly (AG ad Ly s.heap.size) s M s.heap [] → ∀ ls : Array Slot, lv_has ls maxL (lv_args 0 As) →
      WfG l fr nc ns lo G ad CA Ly Ly' post p e s m args below meth c s.heap [] 0 0 (F0 m 0 ls [])) : MtG l y bytes maxL fr nc ns lo G ad CA Ly Ly' As M post sz := by
  refine Met.ofW (cc := bytes) (maxL := maxL) (ret := none) hy rfl ?_
  intro p e s m args below meth c s₁ B hml hv
  obtain ⟨rfl, ⟨hsz, hAO⟩, hv⟩ := hv
  subst hsz
  have hts := atoms_spec (ws := Cond.code y bytes maxL none :: BIG) B.pre
  have hl := lv_entry As (n := maxL) hlen
  rw [lg_entry_eq]
  exact body p e s m As.toArray below meth c B.exec B.bytes B.returns hml (fun w h => hts w (List.mem_cons_of_mem _ h)) (findClass_of_methodNamed B.named) B.notSynchronized (name_of_methodNamed B.named B.method).1 hAO (fun q h => Or.inr h) ⟨hv.1, hv.2.1, hv.2.2.1, fun k hk => Or.inl ⟨k, hk, rfl⟩, va_S.rf, hv.2.2.2⟩ _ hl
section GC
variable {p : Program} {l : Launch} {e : Env} {R : Room} {s : State} {m : MethodId} {args : Array Value} {below : List Frame} {meth : Method} {c : Code} {H : Heap} {locs : List Loc} {cells slots : Nat} {Q : State → Prop}
variable {cc : ByteArray} {pc : Nat} {ls : Array Slot} {rest : List Value} {G : va_G} {ad ad' : Nat → Nat} {CA : Nat → ClassId} {Ly Ly' : List LD} {M : Mem} {A : Nat → Prop} {own : String} {post : Mem → Prop}
theorem rw_vretG (hx : p.tables.exec = Jvm.exec) (hb : c.code = cc) (hr : meth.sig.returnType = none) (hlocks : meth.locks = false) (hW : Wo G ad' CA 6 Ly' (AG ad Ly s.heap.size) s M H locs) (had : ∀ k, k < Ly.length → ad' k = ad k) (hlen : Ly.length ≤ Ly'.length) (hdg : decode cc pc = .ok (.return_, 1)) (hq : post M) : W p l e R s m args below meth c H locs cells slots (MQ below (QgG G ad CA Ly Ly' post s.heap.size) args s cells slots (AG ad Ly s.heap.size)) (F0 m pc ls []) := by
  refine W.vret hx hb hr (fun t ht hV => ⟨⟨ad', M, rfl, had, fun k h1 h2 => ?_, hq, by rw [ht]; exact hW.P, va_K.moved hV.alike hW.K, hW.inj, hW.N.warm hV⟩, hW.S.F ht⟩) hW.S.2.2 hdg hlocks
  rcases hW.dom k h2 with ⟨j, hj, e⟩ | h
  · have := hW.inj k j h2 (by omega) (by rw [e, had j hj])
    omega
  · exact h
theorem WpG.blind {As : List Value} {sz : Nat} : FrameBlind (va_Pc As (fun U => (U.heap.size = sz ∧ AOs U) ∧ Wp G ad CA 6 Ly M U)) := by
  intro a U g mk q
  obtain ⟨q0, ⟨qs, qa⟩, q1, q2, q3, q4⟩ := q
  exact ⟨q0, ⟨qs, AOs.moved (u := U) (U := U.calling g mk a) (Vm.Alike.refl U.vm) qa⟩, q1, va_K.moved (u := U) (U := U.calling g mk a) (Vm.Alike.refl U.vm) q2, q3, NWs.same (u := U) (U := U.calling g mk a) rfl q4⟩
theorem Wo.preG (hW : Wo G ad CA 6 Ly A s M H locs) (hAO : AOs s) (As : List Value) : ∀ U : State, U.heap = H → s.WarmedH U.vm → va_Pc As (fun U => (U.heap.size = H.size ∧ AOs U) ∧ Wp G ad CA 6 Ly M U) As.toArray U := fun U hU hV => ⟨rfl, ⟨by rw [hU], hAO.moved hV.alike⟩, by rw [hU]; exact hW.P, va_K.moved hV.alike hW.K, hW.inj, hW.N.warm hV⟩
theorem rw_runG {Aa : Array Value} {g : JFrame} {nc ns : Nat} (hr : va_Run p l e R s m args below meth c H locs cells slots nc ns g rest (QgG G ad CA Ly Ly' post H.size Aa) (AG ad Ly H.size)) (hW : Wo G ad CA 6 Ly A s M H locs) (hA : ∀ q, s.heap.size ≤ q → A q)
    (kk : ∀ (ad' : Nat → Nat) (M' : Mem) (H1 : Heap) (locs1 : List Loc), (∀ k, k < Ly.length → ad' k = ad k) → post M' → Wo G ad' CA 6 Ly' A s M' H1 locs1 → (∀ q : Nat, q < H.size → ¬ wA ad Ly q → H1[q]? = H[q]?) → H.size ≤ H1.size → W p l e R s m args below meth c H1 locs1 (cells + nc) (slots + ns) Q { g with pc := g.pc + 3, stack := rest }) : W p l e R s m args below meth c H locs cells slots Q g := by
  intro T hT X
  obtain ⟨v, st₀, t, T', L, h0, X', hL, e1, e2, ⟨⟨ad', M', hv, had, hnew, hp, hb⟩, hz, hk⟩, st⟩ := hr T hT X
  cases hv
  rw [h0] at hz hk
  have hS := hW.S
  have hAG : ∀ q, AG ad Ly H.size q → A q := by
    rintro q (⟨k, h1, rfl⟩ | h)
    · exact hW.dom k h1
    · exact hA q (Nat.le_trans hS.1 h)
  have hal : s.vm.Alike t.vm := by rw [← e2]; exact X'.warmed.alike
  have hW' : Wo G ad' CA 6 Ly' A s M' T'.heap (locs ++ L) := by
    refine ⟨by rw [e1]; exact hb.1, va_K.moved hal.symm hb.2.1, hb.2.2.1, fun k hk2 => ?_, ⟨Nat.le_trans hS.1 (by rw [e1]; exact hz), fun q h1 h2 => ?_, fun q hq => ?_⟩, hW.N⟩
    · by_cases hlt : k < Ly.length
      · rw [had k hlt]; exact hW.dom k hlt
      · exact hA _ (Nat.le_trans hS.1 (hnew k (by omega) hk2))
    · rw [e1, hk q (Nat.lt_of_lt_of_le h1 hS.1) (fun z => h2 (hAG q z))]
      exact hS.2.1 q h1 h2
    · rcases List.mem_append.mp hq with h | h
      · exact hS.2.2 q h
      · exact hAG _ (hL q h)
  obtain ⟨t2, a1, b1⟩ := kk ad' M' T'.heap (locs ++ L) had hp hW' (fun q h1 h2 => by rw [e1]; exact hk q h1 (fun z => by rcases z with z | z; exact h2 z; omega)) (by rw [e1]; exact hz) T' rfl X'
  exact ⟨t2, st t2 a1, b1⟩
/-- what the tables say of a constructor's call -/
def CI (own : String) (index : Nat) (y : MethodName) (bytes : ByteArray) (maxL : Nat) : Prop := (Cond.methodLink own index y ∈ BIG ∨ Cond.methodLinkNest own index y RX10 ∈ NW) ∧ Cond.instanceMethod y ∈ BIG ∧ Cond.initialized y.cls ∈ BIG ∧ Cond.code y bytes maxL none ∈ BIG ∧ y.name = "<init>" ∧ (y.cls ≠ "java/lang/invoke/MethodHandle" ∧ y.cls ≠ "java/lang/invoke/VarHandle" ∧ (parseMethodDescriptor y.desc).map (fun d => d.parameters.length) = some 0)
theorem rw_initG {y : MethodName} {bytes : ByteArray} {maxL nL fr nc ns lo index : Nat} (hx : p.tables.exec = Jvm.exec) (hb : c.code = cc) (hml : c.maxLocals = nL) (hts : ∀ w ∈ BIG, w.before args s = true) (hown : s.vm.findClass own = some m.cls) (hW : Wo G ad CA 6 Ly A s M H locs) (hA : ∀ q, s.heap.size ≤ q → A q) (hAO : AOs s) (k : Nat) (hM : MtG l y bytes maxL fr nc ns lo G ad CA Ly Ly' [.ref (ad k)] M post H.size) (cw : CI own index y bytes maxL) (hR : fr + 1 ≤ R.frames ∧ 8 + (maxL + 11) + lo ≤ R.locals) (hc : cells + nc ≤ R.cells ∧ slots + ns ≤ R.slots) (hsz : ls.size = nL) (hcat : (rest.map fun v => v.category).sum ≤ 8) (hdg : decode cc pc = .ok (.invokespecial index, 3))
    (kk : ∀ (ad' : Nat → Nat) (M' : Mem) (H1 : Heap) (locs1 : List Loc), (∀ k, k < Ly.length → ad' k = ad k) → post M' → Wo G ad' CA 6 Ly' A s M' H1 locs1 → (∀ q : Nat, q < H.size → ¬ wA ad Ly q → H1[q]? = H[q]?) → H.size ≤ H1.size → W p l e R s m args below meth c H1 locs1 (cells + nc) (slots + ns) Q (F0 m (pc + 3) ls rest)) : W p l e R s m args below meth c H locs cells slots Q (F0 m pc ls (.ref (ad k) :: rest)) := by
  obtain ⟨c0, c1, c2, c3, c4, c5⟩ := cw
  have hG : GoodIn BIG (Cond.code y bytes maxL none :: BIG) := fun w hw => (List.mem_cons.mp hw).elim (fun q => by rw [q]; exact big_good _ c3) (fun q => big_good w q)
  rcases c0 with c0 | c0
  · exact rw_runG (va_runI (own := own) (As := []) (rest := rest) (Ts := BIG) ⟨hx, hb, hml, hown, hts⟩ hM (cwI 0 hts hG rfl rfl rfl (hts _ c2) (hts _ c0) (hts _ c1) c4 c5 hR) ⟨WpG.blind, hW.preG hAO [.ref (ad k)]⟩ rfl rfl hsz rfl (lv_room hcat) hdg hc) hW hA kk
  · exact rw_runG (va_runIN (own := own) (host := RX10) (As := []) (rest := rest) (Ts := BIG) ⟨hx, hb, hml, hown, hts⟩ hM ⟨va_cnB 0 hts hG rfl rfl rfl (hW.N _ c0) (hts _ c2) c5 hR, c4, hts _ c1⟩ ⟨WpG.blind, hW.preG hAO [.ref (ad k)]⟩ rfl rfl hsz rfl (lv_room hcat) hdg hc) hW hA kk
end GC
