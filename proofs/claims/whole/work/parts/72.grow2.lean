/-! a constructor's world: what was there, its object, what it has made -/
abbrev zr : Int → Int := fun _ => 0
def sideL (k : Nat) : List LD := [.inl (6, [0, k + 1 + 3, 0, 0, 0]), .inr (0, 5, [])]
def fieldL (k : Nat) : List LD := [.inl (0, [0, 0, 0, 0, 0, k + 1 + 3, k + 2 + 3, k + 3 + 3, k + 4 + 3, k + 6 + 3]), .inr (0, 9, []), .inr (0, 9, []), .inr (0, 9, []), .inl (6, [0, k + 5 + 3, 0, 0, 0]), .inr (0, 5, []), .inl (6, [0, k + 7 + 3, 0, 0, 0]), .inr (0, 5, [])]
section OT
variable {L0 T X : List LD} {o o' : LD} {k : Nat}
theorem len_oT (hk : L0.length = k) : (L0 ++ (o :: T)).length = k + (T.length + 1) := by rw [List.length_append, List.length_cons, hk]
theorem get_o0 (hk : L0.length = k) : (L0 ++ (o :: T))[k]? = some o := by subst hk; rw [List.getElem?_append_right (Nat.le_refl _), Nat.sub_self]; rfl
theorem get_oT (hk : L0.length = k) {j : Nat} {d : LD} (h : T[j]? = some d) : (L0 ++ (o :: T))[k + (j + 1)]? = some d := by
  subst hk
  rw [List.getElem?_append_right (by omega), show L0.length + (j + 1) - L0.length = j + 1 by omega, List.getElem?_cons_succ]
  exact h
theorem set_o0 (hk : L0.length = k) : (L0 ++ (o :: T)).set k o' = L0 ++ (o' :: T) := by
  subst hk
  rw [List.set_append_right _ _ (Nat.le_refl _), Nat.sub_self]
  rfl
theorem set_oT (hk : L0.length = k) {j : Nat} : (L0 ++ (o :: T)).set (k + (j + 1)) o' = L0 ++ (o :: T.set j o') := by
  subst hk
  rw [List.set_append_right _ _ (by omega), show L0.length + (j + 1) - L0.length = j + 1 by omega]
  rfl
theorem app_oT : (L0 ++ (o :: T)) ++ X = L0 ++ (o :: (T ++ X)) := by rw [List.append_assoc]; rfl
end OT
theorem CloL.app {Ly : List LD} {d : LD} (h : CloL Ly) (hd : Clo (Ly.length + 1) d) : CloL (Ly ++ [d]) := by
  intro x hx
  rw [List.length_append]
  have mono : ∀ x, Clo Ly.length x → Clo (Ly.length + 1) x := by
    intro x hx
    match x, hx with
    | .inl (ci, cs), hx => exact fun c hc => by have := hx c hc; omega
    | .inr (t, n, rf), hx => exact fun r hr => by have := hx r hr; omega
  rcases List.mem_append.mp hx with q | q
  · exact mono x (h x q)
  · rw [List.mem_singleton.mp q]; exact hd
theorem CloL.set {Ly : List LD} {d : LD} (h : CloL Ly) (k : Nat) (hd : Clo Ly.length d) : CloL (Ly.set k d) := by
  intro x hx
  rw [List.length_set]
  rcases List.mem_or_eq_of_mem_set hx with q | q
  · exact h x q
  · rw [q]; exact hd
section NWR
variable {p : Program} {l : Launch} {e : Env} {R : Room} {s : State} {m : MethodId} {args : Array Value} {below : List Frame} {meth : Method} {c : Code} {H : Heap} {locs : List Loc} {cells slots : Nat} {Q : State → Prop}
variable {cc : ByteArray} {pc : Nat} {ls : Array Slot} {rest : List Value} {G : va_G} {ad : Nat → Nat} {CA : Nat → ClassId} {L0 T : List LD} {o : LD} {k n : Nat} {M : Mem} {A : Nat → Prop} {own : String}
theorem nwA (hx : p.tables.exec = Jvm.exec) (hb : c.code = cc) (hts : ∀ w ∈ BIG, w.before args s = true) (hA : ∀ q, s.heap.size ≤ q → A q) (hk : L0.length = k) (hn : k + (T.length + 1) = n) (hW : Wo G ad CA 6 (L0 ++ (o :: T)) A s M H locs) (hcl : CloL (L0 ++ (o :: T))) {atype : ArrayType} (t : Nat) (hin : Cond.arrayClass (newarray.typeOf atype) ∈ BIG) (ht : (t = 0 ∧ atype = .int) ∨ (t = 1 ∧ atype = .long) ∨ (t = 2 ∧ atype = .byte) ∨ (t = 3 ∧ atype = .boolean)) {z : Int} {N : Nat} (hN : z = (N : Int)) (hn2 : N ≤ 1000) (hc : cells + 1 ≤ R.cells) (hs : slots + N ≤ R.slots) (hdg : decode cc pc = .ok (.newarray atype, 2))
    (kk : ∀ (ad' : Nat → Nat) (H1 : Heap), (∀ j, j < n → ad' j = ad j) → CloL (L0 ++ (o :: (T ++ [.inr (t, N, [])]))) → Wo G ad' CA 6 (L0 ++ (o :: (T ++ [.inr (t, N, [])]))) A s (updR M n zr) H1 locs → W p l e R s m args below meth c H1 locs (cells + 1) (slots + N) Q (F0 m (pc + 2) ls (.ref (ad' n) :: rest))) : W p l e R s m args below meth c H locs cells slots Q (F0 m pc ls (.int (iN z) :: rest)) := by
  have hlen : (L0 ++ (o :: T)).length = n := by rw [len_oT hk, hn]
  refine rw_newA hx hb hts hW hcl hA t hin ht hN hn2 hc hs hdg (fun q H1 hW1 => ?_)
  rw [hlen, app_oT] at hW1
  rw [hlen]
  exact kk _ H1 (fun j hj => adN_lt hj) (by rw [← app_oT]; exact hcl.app (fun r hr => by cases hr)) hW1
theorem nwQ (hx : p.tables.exec = Jvm.exec) (hb : c.code = cc) (hts : ∀ w ∈ BIG, w.before args s = true) (hown : s.vm.findClass own = some m.cls) (hA : ∀ q, s.heap.size ≤ q → A q) (hk : L0.length = k) (hn : k + (T.length + 1) = n) (hW : Wo G ad CA 6 (L0 ++ (o :: T)) A s M H locs) (hcl : CloL (L0 ++ (o :: T))) {index : Nat} {C : String} (hlink : Cond.classLink own index C ∈ BIG) (hover : va_AO C s) (t : Nat) (ht : (t = 4 ∧ C = "KegBrooks$Field") ∨ (t = 5 ∧ C = "KegBrooks$Sheet")) {z : Int} {N : Nat} (hN : z = (N : Int)) (hn2 : N ≤ 1000) (hc : cells + 1 ≤ R.cells) (hs : slots + N ≤ R.slots) (hdg : decode cc pc = .ok (.anewarray index, 3))
    (kk : ∀ (ad' : Nat → Nat) (H1 : Heap), (∀ j, j < n → ad' j = ad j) → CloL (L0 ++ (o :: (T ++ [.inr (t, N, [])]))) → Wo G ad' CA 6 (L0 ++ (o :: (T ++ [.inr (t, N, [])]))) A s (updR M n zr) H1 locs → W p l e R s m args below meth c H1 locs (cells + 1) (slots + N) Q (F0 m (pc + 3) ls (.ref (ad' n) :: rest))) : W p l e R s m args below meth c H locs cells slots Q (F0 m pc ls (.int (iN z) :: rest)) := by
  have hlen : (L0 ++ (o :: T)).length = n := by rw [len_oT hk, hn]
  refine rw_newQ hx hb hts hown hW hcl hA hlink hover t ht hN hn2 hc hs hdg (fun q H1 hW1 => ?_)
  rw [hlen, app_oT] at hW1
  rw [hlen]
  exact kk _ H1 (fun j hj => adN_lt hj) (by rw [← app_oT]; exact hcl.app (fun r hr => by cases hr)) hW1
theorem nwO (hx : p.tables.exec = Jvm.exec) (hb : c.code = cc) (hts : ∀ w ∈ BIG, w.before args s = true) (hown : s.vm.findClass own = some m.cls) (hA : ∀ q, s.heap.size ≤ q → A q) (hk : L0.length = k) (hn : k + (T.length + 1) = n) (hW : Wo G ad CA 6 (L0 ++ (o :: T)) A s M H locs) (hcl : CloL (L0 ++ (o :: T))) {index ci N : Nat} {dc : List Nat} (hf : FN2 own index ci N dc) (hc : cells + 1 ≤ R.cells) (hs : slots + N ≤ R.slots) (hdg : decode cc pc = .ok (.new index, 3))
    (kk : ∀ (ad' : Nat → Nat) (H1 : Heap), (∀ j, j < n → ad' j = ad j) → CloL (L0 ++ (o :: (T ++ [.inl (ci, dc)]))) → Wo G ad' CA 6 (L0 ++ (o :: (T ++ [.inl (ci, dc)]))) A s (updR M n zr) H1 locs → W p l e R s m args below meth c H1 locs (cells + 1) (slots + N) Q (F0 m (pc + 3) ls (.ref (ad' n) :: rest))) : W p l e R s m args below meth c H locs cells slots Q (F0 m pc ls rest) := by
  have hlen : (L0 ++ (o :: T)).length = n := by rw [len_oT hk, hn]
  have hdc : ∀ c ∈ dc, c < 3 := by obtain ⟨C, T, ty, -, -, -, -, -, -, h, -⟩ := hf; exact h
  refine rw_newO hx hb hts hown hW hcl hA hf hc hs hdg (fun q H1 hW1 => ?_)
  rw [hlen, app_oT] at hW1
  rw [hlen]
  exact kk _ H1 (fun j hj => adN_lt hj) (by rw [← app_oT]; exact hcl.app (fun c hc => by have := hdc c hc; omega)) hW1
theorem nwP (hx : p.tables.exec = Jvm.exec) (hb : c.code = cc) (hts : ∀ w ∈ BIG, w.before args s = true) (hown : s.vm.findClass own = some m.cls) (hin2 : meth.name = "<init>") (hk : L0.length = k) {ci : Nat} {cs : List Nat} (hW : Wo G ad CA 6 (L0 ++ (.inl (ci, cs) :: T)) A s M H locs) (hcl : CloL (L0 ++ (.inl (ci, cs) :: T))) (j : Nat) {cd : Nat} (hj : cs[j]? = some cd) (r : Nat) (hr : r < k + (T.length + 1)) {index : Nat} {ty : FieldType} (hf : FP own index ci j true ty) (hn : ∀ q, narrow ty (.ref q) = .ref q ∧ fits ty (.ref q) = true) (hdg : decode cc pc = .ok (.putfield index, 3))
    (kk : ∀ (H1 : Heap) (locs1 : List Loc), CloL (L0 ++ (.inl (ci, cs.set j (r + 3)) :: T)) → Wo G ad CA 6 (L0 ++ (.inl (ci, cs.set j (r + 3)) :: T)) A s M H1 locs1 → W p l e R s m args below meth c H1 locs1 cells slots Q (F0 m (pc + 3) ls rest)) : W p l e R s m args below meth c H locs cells slots Q (F0 m pc ls (.ref (ad r) :: .ref (ad k) :: rest)) := by
  refine rw_putRF hx hb hts hown hin2 hW k (get_o0 hk) j hj r hf hn hdg (fun H1 locs1 hW1 => ?_)
  rw [set_o0 hk] at hW1
  refine kk H1 locs1 ?_ hW1
  rw [← set_o0 (o := .inl (ci, cs)) hk]
  refine hcl.set k (fun c hc => ?_)
  rw [len_oT hk]
  rcases List.mem_or_eq_of_mem_set hc with q | q
  · have := hcl (.inl (ci, cs)) (List.mem_append_right _ List.mem_cons_self) c q
    rw [len_oT hk] at this
    exact this
  · omega
theorem nwS (hx : p.tables.exec = Jvm.exec) (hb : c.code = cc) (hk : L0.length = k) (hW : Wo G ad CA 6 (L0 ++ (o :: T)) A s M H locs) (hcl : CloL (L0 ++ (o :: T))) (j : Nat) {N : Nat} {rf : List Nat} (t : Nat) (hL : T[j]? = some (.inr (t, N, rf))) (i : Nat) {ci : Nat} {cs : List Nat} (hR : T[i]? = some (.inl (ci, cs))) (ht : (t = 4 ∧ ci = 0) ∨ (t = 5 ∧ ci = 5)) {a : Int} (ha : a = (rf.length : Int)) (hlt : rf.length < N) (hn : N ≤ 1000) (hdg : decode cc pc = .ok (.aastore, 1))
    (kk : ∀ (H1 : Heap) (locs1 : List Loc), CloL (L0 ++ (o :: T.set j (.inr (t, N, rf ++ [k + (i + 1)])))) → Wo G ad CA 6 (L0 ++ (o :: T.set j (.inr (t, N, rf ++ [k + (i + 1)])))) A s M H1 locs1 → W p l e R s m args below meth c H1 locs1 cells slots Q (F0 m (pc + 1) ls rest)) : W p l e R s m args below meth c H locs cells slots Q (F0 m pc ls (.ref (ad (k + (i + 1))) :: .int (iN a) :: .ref (ad (k + (j + 1))) :: rest)) := by
  refine rw_aast hx hb hW (k + (j + 1)) t (get_oT hk hL) (k + (i + 1)) (get_oT hk hR) ht ha hlt hn hdg (fun H1 locs1 hW1 => ?_)
  rw [set_oT hk] at hW1
  refine kk H1 locs1 ?_ hW1
  rw [← set_oT (o := o) hk]
  refine hcl.set _ (fun r hr => ?_)
  rw [len_oT hk]
  rcases List.mem_append.mp hr with q | q
  · have := hcl (.inr (t, N, rf)) (List.mem_append_right _ (List.mem_cons_of_mem _ (List.mem_of_getElem? hL))) r q
    rw [len_oT hk] at this
    exact this
  · have hi := (List.getElem?_eq_some_iff.mp hR).1
    rw [List.mem_singleton.mp q]
    omega
end NWR
theorem fat_L {L0 : List LD} {k : Nat} (hk : L0.length = k) : FAt (L0 ++ fieldL k) k := by
  have g : ∀ (j : Nat) (d : LD), (fieldL k)[j]? = some d → (L0 ++ fieldL k)[k + j]? = some d := by
    intro j d h
    subst hk
    rw [List.getElem?_append_right (by omega), show L0.length + j - L0.length = j by omega]
    exact h
  exact ⟨g 0 _ rfl, g 1 _ rfl, g 2 _ rfl, g 3 _ rfl, ⟨g 4 _ rfl, g 5 _ rfl⟩, ⟨g 6 _ rfl, g 7 _ rfl⟩⟩
theorem app_o1 {L0 X : List LD} {o : LD} : L0 ++ (o :: X) = (L0 ++ (o :: [])) ++ X := by rw [List.append_assoc]; rfl
theorem len_side (k : Nat) : (sideL k).length = 2 := rfl
theorem len_field (k : Nat) : (fieldL k).length = 8 := rfl
theorem getA {A B : List LD} {d : LD} {n : Nat} (h : A.length = n) : (A ++ (d :: B))[n]? = some d := by subst h; rw [List.getElem?_append_right (Nat.le_refl _), Nat.sub_self]; rfl
theorem getL {A B : List LD} {n : Nat} {d : LD} (h : A[n]? = some d) : (A ++ B)[n]? = some d := by
  have := (List.getElem?_eq_some_iff.mp h).1
  rw [List.getElem?_append_left this]; exact h
theorem setA {A B : List LD} {d d' : LD} {n : Nat} (h : A.length = n) : (A ++ (d :: B)).set n d' = A ++ (d' :: B) := by subst h; rw [List.set_append_right _ _ (Nat.le_refl _), Nat.sub_self]; rfl
theorem setL {A B : List LD} {d' : LD} {n : Nat} (h : n < A.length) : (A ++ B).set n d' = A.set n d' ++ B := List.set_append_left _ _ h
