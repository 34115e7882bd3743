/-! numbers: machine ints told as integers -/
def iN (a : Int) : Int32 := Int32.ofInt a
def jN (a : Int) : Int64 := Int64.ofInt a
abbrev in32 (a : Int) : Prop := -2147483648 ≤ a ∧ a ≤ 2147483647
abbrev in64 (a : Int) : Prop := -9223372036854775808 ≤ a ∧ a ≤ 9223372036854775807
theorem iN_toInt {a : Int} (h : in32 a) : (iN a).toInt = a := Int32.toInt_ofInt_of_le (by have := h.1; omega) (by have := h.2; omega)
theorem jN_toInt {a : Int} (h : in64 a) : (jN a).toInt = a := Int64.toInt_ofInt_of_le (by have := h.1; omega) (by have := h.2; omega)
theorem iN_add (a b : Int) : iN a + iN b = iN (a + b) := (Int32.ofInt_add a b).symm
theorem iN_sub (a b : Int) : iN a - iN b = iN (a - b) := (Int32.ofInt_sub a b).symm
theorem iN_mul (a b : Int) : iN a * iN b = iN (a * b) := (Int32.ofInt_mul a b).symm
theorem iN_neg (a : Int) : -iN a = iN (-a) := (Int32.ofInt_neg a).symm
theorem jN_add (a b : Int) : jN a + jN b = jN (a + b) := (Int64.ofInt_add a b).symm
theorem jN_sub (a b : Int) : jN a - jN b = jN (a - b) := (Int64.ofInt_sub a b).symm
theorem jN_mul (a b : Int) : jN a * jN b = jN (a * b) := (Int64.ofInt_mul a b).symm
theorem iN_self (x : Int32) : iN x.toInt = x := Int32.ofInt_toInt x
theorem jN_self (x : Int64) : jN x.toInt = x := Int64.ofInt_toInt x
theorem in32_toInt (x : Int32) : in32 x.toInt := ⟨by have := x.le_toInt; omega, by have := x.toInt_lt; omega⟩
theorem in64_toInt (x : Int64) : in64 x.toInt := ⟨by have := x.le_toInt; omega, by have := x.toInt_lt; omega⟩
theorem iN_of (x : Int32) : ∃ a : Int, in32 a ∧ x = iN a := ⟨x.toInt, in32_toInt x, (iN_self x).symm⟩
theorem jN_of (x : Int64) : ∃ a : Int, in64 a ∧ x = jN a := ⟨x.toInt, in64_toInt x, (jN_self x).symm⟩
theorem iN_eq {a b : Int} (ha : in32 a) (hb : in32 b) : iN a = iN b ↔ a = b := by
  rw [← Int32.toInt_inj, iN_toInt ha, iN_toInt hb]
theorem iN_lt {a b : Int} (ha : in32 a) (hb : in32 b) : iN a < iN b ↔ a < b := by
  rw [Int32.lt_iff_toInt_lt, iN_toInt ha, iN_toInt hb]
theorem iN_le {a b : Int} (ha : in32 a) (hb : in32 b) : iN a ≤ iN b ↔ a ≤ b := by
  rw [Int32.le_iff_toInt_le, iN_toInt ha, iN_toInt hb]
theorem jN_eq {a b : Int} (ha : in64 a) (hb : in64 b) : jN a = jN b ↔ a = b := by
  rw [← Int64.toInt_inj, jN_toInt ha, jN_toInt hb]
theorem jN_lt {a b : Int} (ha : in64 a) (hb : in64 b) : jN a < jN b ↔ a < b := by
  rw [Int64.lt_iff_toInt_lt, jN_toInt ha, jN_toInt hb]
theorem iN_tdiv {a b : Int} (ha : in32 a) (hb : in32 b) (h : b ≠ -1) (h0 : b ≠ 0) : iN a / iN b = iN (a.tdiv b) := by
  rw [← Int32.toInt_inj, Int32.toInt_div_of_ne_right _ _ (by rw [show (-1 : Int32) = iN (-1) from rfl, Ne, iN_eq hb (by decide)]; exact h), iN_toInt ha, iN_toInt hb]
  refine (iN_toInt ?_).symm
  obtain ⟨a1, a2⟩ := ha
  have e1 := Int.natAbs_tdiv_le_natAbs a b
  have e2 : (a.tdiv b).natAbs ≤ a.natAbs := e1
  constructor
  · omega
  · rcases Int.lt_or_le a 0 with q | q
    · by_cases hq : a = -2147483648
      · rcases Int.lt_or_le b 0 with hb' | hb'
        · have : (a.tdiv b).natAbs ≤ 1073741824 := by
            rw [Int.natAbs_tdiv]
            subst hq
            exact Nat.div_le_of_le_mul (by omega)
          omega
        · have : a.tdiv b ≤ 0 := by
            have := Int.tdiv_nonneg (a := -a) (b := b) (by omega) hb'
            rw [Int.neg_tdiv] at this
            omega
          omega
      · omega
    · omega
theorem iN_nat {a : Int} (h0 : 0 ≤ a) (h : a ≤ 2147483647) : (iN a).toNatClampNeg = a.toNat := by
  show (iN a).toInt.toNat = _
  rw [iN_toInt ⟨by omega, h⟩]
theorem iN_natI {a : Int} (h0 : 0 ≤ a) (h : a ≤ 2147483647) : (((iN a).toNatClampNeg : Nat) : Int) = a := by
  rw [iN_nat h0 h]; omega
theorem iN_vpin {a : Int} {n : Nat} (h0 : 0 ≤ a) (h : a < n) (hn : a ≤ 2147483647) : vp_in (iN a) n := vp_in_iff.mpr ⟨by rw [iN_toInt ⟨by omega, hn⟩]; exact h0, by rw [iN_toInt ⟨by omega, hn⟩]; exact h⟩
/-! memory: rows of cells -/
def updI (f : Int → Int) (j v : Int) : Int → Int := fun i => if i = j then v else f i
def updR (M : Nat → Int → Int) (k : Nat) (g : Int → Int) : Nat → Int → Int := fun q => if q = k then g else M q
def upd2 (M : Nat → Int → Int) (k : Nat) (j v : Int) : Nat → Int → Int := updR M k (updI (M k) j v)
theorem updI_eq {f : Int → Int} {j v : Int} : updI f j v j = v := if_pos rfl
theorem updI_ne {f : Int → Int} {i j v : Int} (h : i ≠ j) : updI f j v i = f i := if_neg h
theorem updR_eq {M : Nat → Int → Int} {k : Nat} {g : Int → Int} : updR M k g k = g := if_pos rfl
theorem updR_ne {M : Nat → Int → Int} {q k : Nat} {g : Int → Int} (h : q ≠ k) : updR M k g q = M q := if_neg h
theorem upd2_at {M : Nat → Int → Int} {k : Nat} {j v : Int} {q : Nat} {i : Int} : upd2 M k j v q i = if q = k ∧ i = j then v else M q i := by
  unfold upd2 updR updI
  by_cases h : q = k
  · subst h
    simp
  · simp [h]
theorem upd2_eq {M : Nat → Int → Int} {k : Nat} {j v : Int} : upd2 M k j v k j = v := by rw [upd2_at, if_pos ⟨rfl, rfl⟩]
theorem upd2_ne1 {M : Nat → Int → Int} {k q : Nat} {j v : Int} (h : q ≠ k) : upd2 M k j v q = M q := updR_ne h
theorem upd2_ne2 {M : Nat → Int → Int} {k q : Nat} {i j v : Int} (h : i ≠ j) : upd2 M k j v q i = M q i := by rw [upd2_at, if_neg (fun z => h z.2)]
theorem upd2_row {M : Nat → Int → Int} {k : Nat} {j v : Int} : upd2 M k j v k = updI (M k) j v := updR_eq
/-! layout: what each cell of a world is. An object: (class, what its slots are: 0 an int, 1 a long, 2 null, r + 3 the cell r); an array: (type, length, the cells of references) -/
abbrev LD : Type := (Nat × List Nat) ⊕ (Nat × Nat × List Nat)
def ldV (ad : Nat → Nat) (c : Nat) (v : Int) : Value := match c with
  | 0 => .int (iN v)
  | 1 => .long (jN v)
  | 2 => .null
  | r + 3 => .ref (ad r)
def ldS (ad : Nat → Nat) (f : Int → Int) : List Nat → Nat → List Value
  | [], _ => []
  | c :: cs, j => ldV ad c (f j) :: ldS ad f cs (j + 1)
def ldA (ad : Nat → Nat) (ty : Nat) (refs : List Nat) (f : Int → Int) : (Nat → Int32) ⊕ (Nat → Int64) ⊕ (Nat → UInt32) ⊕ (Nat → UInt64) ⊕ (Nat → Option Nat) := match ty with
  | 1 => .inr (.inl fun j => jN (f j))
  | 4 => .inr (.inr (.inr (.inr fun j => (refs[j]?).map ad)))
  | 5 => .inr (.inr (.inr (.inr fun j => (refs[j]?).map ad)))
  | _ => .inl fun j => iN (f j)
def ldE (ad : Nat → Nat) (CA : Nat → ClassId) (d : LD) (f : Int → Int) : va_E := match d with
  | .inl (ci, cs) => .inr (ci, ldS ad f cs 0)
  | .inr (ty, n, refs) => .inl (CA ty, n, ldA ad ty refs f)
def wls (ad : Nat → Nat) (CA : Nat → ClassId) (M : Nat → Int → Int) : List LD → Nat → va_W
  | [], _ => []
  | d :: ds, k => (ad k, ldE ad CA d (M k)) :: wls ad CA M ds (k + 1)
theorem ldS_len (ad : Nat → Nat) (f : Int → Int) : ∀ (cs : List Nat) (j0 : Nat), (ldS ad f cs j0).length = cs.length
  | [], _ => rfl
  | _ :: cs, j0 => congrArg (· + 1) (ldS_len ad f cs (j0 + 1))
theorem ldS_get (ad : Nat → Nat) (f : Int → Int) : ∀ (cs : List Nat) (j0 j c : Nat), cs[j]? = some c → (ldS ad f cs j0)[j]? = some (ldV ad c (f ((j0 + j : Nat) : Int)))
  | [], _, _, _, h => by simp at h
  | c0 :: cs, j0, 0, c, h => by
    simp at h
    subst h
    simp [ldS]
  | c0 :: cs, j0, j + 1, c, h => by
    rw [List.getElem?_cons_succ] at h
    rw [ldS, List.getElem?_cons_succ, ldS_get ad f cs (j0 + 1) j c h]
    congr 3
    omega
theorem ldS_same (ad : Nat → Nat) (f g : Int → Int) : ∀ (cs : List Nat) (j0 : Nat), (∀ j : Nat, j0 ≤ j → f j = g j) → ldS ad f cs j0 = ldS ad g cs j0
  | [], _, _ => rfl
  | c :: cs, j0, h => by
    rw [ldS, ldS, h j0 (Nat.le_refl _), ldS_same ad f g cs (j0 + 1) (fun j q => h j (by omega))]
theorem ldS_set (ad : Nat → Nat) (f : Int → Int) (v : Int) : ∀ (cs : List Nat) (j0 j c : Nat), cs[j]? = some c → (ldS ad f cs j0).set j (ldV ad c v) = ldS ad (updI f ((j0 + j : Nat) : Int) v) cs j0
  | [], _, _, _, h => by simp at h
  | c0 :: cs, j0, 0, c, h => by
    simp at h
    subst h
    show ldV ad c0 v :: ldS ad f cs (j0 + 1) = ldV ad c0 (updI f (j0 : Int) v j0) :: ldS ad (updI f (j0 : Int) v) cs (j0 + 1)
    rw [updI_eq, ldS_same ad f (updI f (j0 : Int) v) cs (j0 + 1) (fun j q => (updI_ne (by omega)).symm)]
  | c0 :: cs, j0, j + 1, c, h => by
    rw [List.getElem?_cons_succ] at h
    rw [ldS, ldS, List.set_cons_succ, ldS_set ad f v cs (j0 + 1) j c h, updI_ne (by omega), show j0 + 1 + j = j0 + (j + 1) by omega]
theorem wls_len (ad : Nat → Nat) (CA : Nat → ClassId) (M : Nat → Int → Int) : ∀ (ds : List LD) (k : Nat), (wls ad CA M ds k).length = ds.length
  | [], _ => rfl
  | _ :: ds, k => congrArg (· + 1) (wls_len ad CA M ds (k + 1))
theorem wls_get (ad : Nat → Nat) (CA : Nat → ClassId) (M : Nat → Int → Int) : ∀ (ds : List LD) (k0 k : Nat) (d : LD), ds[k]? = some d → (wls ad CA M ds k0)[k]? = some (ad (k0 + k), ldE ad CA d (M (k0 + k)))
  | [], _, _, _, h => by simp at h
  | d0 :: ds, k0, 0, d, h => by
    simp at h
    subst h
    rfl
  | d0 :: ds, k0, k + 1, d, h => by
    rw [List.getElem?_cons_succ] at h
    rw [wls, List.getElem?_cons_succ, wls_get ad CA M ds (k0 + 1) k d h, show k0 + 1 + k = k0 + (k + 1) by omega]
theorem wls_of (ad : Nat → Nat) (CA : Nat → ClassId) (M : Nat → Int → Int) (ds : List LD) (k : Nat) (q : Nat × va_E) (h : (wls ad CA M ds 0)[k]? = some q) : ∃ d, ds[k]? = some d ∧ q = (ad k, ldE ad CA d (M k)) := by
  have hl := (List.getElem?_eq_some_iff.mp h).1
  rw [wls_len] at hl
  have h1 : ds[k]? = some ds[k] := List.getElem?_eq_some_iff.mpr ⟨hl, rfl⟩
  have h2 := wls_get ad CA M ds 0 k _ h1
  rw [Nat.zero_add] at h2
  rw [h2] at h
  exact ⟨_, h1, (Option.some.inj h).symm⟩
theorem wls_same (ad : Nat → Nat) (CA : Nat → ClassId) (M M' : Nat → Int → Int) : ∀ (ds : List LD) (k : Nat), (∀ q, k ≤ q → M q = M' q) → wls ad CA M ds k = wls ad CA M' ds k
  | [], _, _ => rfl
  | d :: ds, k, h => by rw [wls, wls, h k (Nat.le_refl _), wls_same ad CA M M' ds (k + 1) (fun q z => h q (by omega))]
theorem wls_set (ad : Nat → Nat) (CA : Nat → ClassId) (M : Nat → Int → Int) (g : Int → Int) : ∀ (ds : List LD) (k0 k : Nat) (d : LD), ds[k]? = some d → (wls ad CA M ds k0).set k (ad (k0 + k), ldE ad CA d g) = wls ad CA (updR M (k0 + k) g) ds k0
  | [], _, _, _, h => by simp at h
  | d0 :: ds, k0, 0, d, h => by
    simp at h
    subst h
    rw [wls, wls, List.set_cons_zero, Nat.add_zero, updR_eq, wls_same ad CA M (updR M k0 g) ds (k0 + 1) (fun q z => (updR_ne (by omega)).symm)]
  | d0 :: ds, k0, k + 1, d, h => by
    rw [List.getElem?_cons_succ] at h
    have h1 := wls_set ad CA M g ds (k0 + 1) k d h
    rw [show k0 + 1 + k = k0 + (k + 1) by omega] at h1
    rw [wls, wls, List.set_cons_succ, h1, updR_ne (by omega)]
/-! worlds over a layout -/
abbrev BIG : List Cond := wsL_law
def tyAll (CA : Nat → ClassId) : List (ClassId × FieldType) := [(CA 0, .int), (CA 1, .long), (CA 2, .byte), (CA 3, .boolean), (CA 4, .object "KegBrooks$Field"), (CA 5, .object "KegBrooks$Sheet")]
def tyL (CA : Nat → ClassId) (nt : Nat) : List (ClassId × FieldType) := (tyAll CA).take nt
theorem tyL_get {CA : Nat → ClassId} {nt t : Nat} {q : ClassId × FieldType} (h : t < nt) (hq : (tyAll CA)[t]? = some q) : (tyL CA nt)[t]? = some q := by
  unfold tyL
  rw [List.getElem?_take_of_lt h]
  exact hq
def wA (ad : Nat → Nat) (Ly : List LD) : Nat → Prop := fun q => ∃ k, k < Ly.length ∧ q = ad k
abbrev Mem : Type := Nat → Int → Int
def NW : List Cond := [.methodLinkNest RX10 21 yX3_init RX10, .methodLinkNest RX10 28 yX1_init RX10, .methodLinkNest RX10 35 yX2_init RX10, .methodLinkNest RX10 42 yX4_init RX10, .methodLinkNest RX10 49 yX9_init RX10, .methodLinkNest RX10 66 yX5_init RX10, .methodLinkNest RX0 23 yX6_init RX10, .methodLinkNest RX0 89 yX10_within RX10, .methodLinkNest RX1 43 yX10_replace RX10, .methodLinkNest RX3 11 yX8_init RX10, .methodLinkNest RX3 111 yX10_replace RX10, .methodLinkNest RX6 28 yX10_within RX10]
theorem NW_is : ∀ w ∈ NW, ∃ (a : String) (i : Nat) (x : MethodName) (h : String), w = .methodLinkNest a i x h := by
  intro w hw
  simp only [NW, List.mem_cons, List.not_mem_nil, or_false] at hw
  rcases hw with rfl | rfl | rfl | rfl | rfl | rfl | rfl | rfl | rfl | rfl | rfl | rfl <;> exact ⟨_, _, _, _, rfl⟩
def NWs (U : State) : Prop := ∀ w ∈ NW, va_Nw w U
theorem NWs.warm {s U : State} (hV : s.WarmedH U.vm) (h : NWs s) : NWs U := by
  intro w hw
  obtain ⟨a, i, x, hh, rfl⟩ := NW_is w hw
  exact va_Nw.warmM hV (h _ hw)
theorem NWs.same {u U : State} (hV : u.vm = U.vm) (h : NWs u) : NWs U := by
  intro w hw
  obtain ⟨a, i, x, hh, rfl⟩ := NW_is w hw
  exact va_Nw.same rfl hV (h _ hw)
def Wp (G : va_G) (ad : Nat → Nat) (CA : Nat → ClassId) (nt : Nat) (Ly : List LD) (M : Mem) (U : State) : Prop :=
  va_P G vwCl (wls ad CA M Ly 0) U.heap ∧ va_K G vwCl (tyL CA nt) U ∧ (∀ i j, i < Ly.length → j < Ly.length → ad i = ad j → i = j) ∧ NWs U
def Wo (G : va_G) (ad : Nat → Nat) (CA : Nat → ClassId) (nt : Nat) (Ly : List LD) (A : Nat → Prop) (s : State) (M : Mem) (H : Heap) (locs : List Loc) : Prop :=
  va_P G vwCl (wls ad CA M Ly 0) H ∧ va_K G vwCl (tyL CA nt) s ∧ (∀ i j, i < Ly.length → j < Ly.length → ad i = ad j → i = j) ∧ (∀ k, k < Ly.length → A (ad k)) ∧ va_S A s.heap H locs ∧ NWs s
section WO
variable {G : va_G} {ad : Nat → Nat} {CA : Nat → ClassId} {nt : Nat} {Ly : List LD} {A : Nat → Prop} {s : State} {M : Mem} {H : Heap} {locs : List Loc}
theorem Wo.P (h : Wo G ad CA nt Ly A s M H locs) : va_P G vwCl (wls ad CA M Ly 0) H := h.1
theorem Wo.K (h : Wo G ad CA nt Ly A s M H locs) : va_K G vwCl (tyL CA nt) s := h.2.1
theorem Wo.inj (h : Wo G ad CA nt Ly A s M H locs) : ∀ i j, i < Ly.length → j < Ly.length → ad i = ad j → i = j := h.2.2.1
theorem Wo.dom (h : Wo G ad CA nt Ly A s M H locs) : ∀ k, k < Ly.length → A (ad k) := h.2.2.2.1
theorem Wo.S (h : Wo G ad CA nt Ly A s M H locs) : va_S A s.heap H locs := h.2.2.2.2.1
theorem Wo.N (h : Wo G ad CA nt Ly A s M H locs) : NWs s := h.2.2.2.2.2
end WO
theorem wls_D {ad : Nat → Nat} {CA : Nat → ClassId} {Ly : List LD} {M : Mem} {A : Nat → Prop} (hi : ∀ i j, i < Ly.length → j < Ly.length → ad i = ad j → i = j) (hA : ∀ k, k < Ly.length → A (ad k)) : va_D A (wls ad CA M Ly 0) := by
  refine ⟨fun i j p q hp hq h => ?_, fun k q hk => ?_⟩
  · obtain ⟨d1, e1, rfl⟩ := wls_of ad CA M Ly i p hp
    obtain ⟨d2, e2, rfl⟩ := wls_of ad CA M Ly j q hq
    exact hi i j (List.getElem?_eq_some_iff.mp e1).1 (List.getElem?_eq_some_iff.mp e2).1 h
  · obtain ⟨d, e, rfl⟩ := wls_of ad CA M Ly k q hk
    exact hA k (List.getElem?_eq_some_iff.mp e).1
theorem Wo.start {G : va_G} {ad : Nat → Nat} {CA : Nat → ClassId} {nt : Nat} {Ly : List LD} {s : State} {M : Mem} (h : Wp G ad CA nt Ly M s) : Wo G ad CA nt Ly (wA ad Ly) s M s.heap [] :=
  ⟨h.1, h.2.1, h.2.2.1, fun k hk => ⟨k, hk, rfl⟩, va_S.rf, h.2.2.2⟩
/-- what the tables say of a field's place in a class's code -/
def FF (own : String) (index ci j : Nat) : Prop := ∃ (C : String) (T : u_T) (N : Nat), vwCl[ci]? = some (C, T, N) ∧ j < N ∧ (∀ w ∈ u_ws C T N, w ∈ BIG) ∧ Cond.fieldLink own index (T j).1 (T j).2.1 (T j).2.2.1 ∈ BIG
def FP (own : String) (index ci j : Nat) (fin : Bool) (ty : FieldType) : Prop := ∃ (C : String) (T : u_T) (N : Nat) (ty0 : Nat → FieldType), vwCl[ci]? = some (C, T, N) ∧ j < N ∧ (∀ w ∈ u_ws C T N, w ∈ BIG) ∧ Cond.fieldLink own index (T j).1 (T j).2.1 (T j).2.2.1 ∈ BIG ∧
  (∀ k, k < N → parseFieldDescriptor (T k).2.2.1 = some (ty0 k)) ∧ (∀ a, a < N → ∀ b, b < N → a ≠ b → (T a).2.1 ≠ (T b).2.1) ∧ (T j).2.2.2 = fin ∧ (T j).1 = own ∧ parseFieldDescriptor (T j).2.2.1 = some ty
def FQ (own : String) (index ci j : Nat) (ty : FieldType) : Prop := ∃ (C : String) (T : u_T) (N : Nat) (ty0 : Nat → FieldType), vwCl[ci]? = some (C, T, N) ∧ j < N ∧ (∀ w ∈ u_ws C T N, w ∈ BIG) ∧ Cond.fieldLink own index (T j).1 (T j).2.1 (T j).2.2.1 ∈ BIG ∧
  (∀ k, k < N → parseFieldDescriptor (T k).2.2.1 = some (ty0 k)) ∧ (∀ a, a < N → ∀ b, b < N → a ≠ b → (T a).2.1 ≠ (T b).2.1) ∧ (T j).2.2.2 = false ∧ parseFieldDescriptor (T j).2.2.1 = some ty
section RW
variable {p : Program} {l : Launch} {e : Env} {R : Room} {s : State} {m : MethodId} {args : Array Value} {below : List Frame} {meth : Method} {c : Code} {H : Heap} {locs : List Loc} {cells slots : Nat} {Q : State → Prop}
variable {cc : ByteArray} {pc : Nat} {ls : Array Slot} {rest : List Value} {G : va_G} {ad : Nat → Nat} {CA : Nat → ClassId} {nt : Nat} {Ly : List LD} {M : Mem} {A : Nat → Prop} {own : String}
theorem Wo.cell (hW : Wo G ad CA nt Ly A s M H locs) {k : Nat} {d : LD} (hL : Ly[k]? = some d) : (wls ad CA M Ly 0)[k]? = some (ad k, ldE ad CA d (M k)) := by
  have h := wls_get ad CA M Ly 0 k d hL
  rwa [Nat.zero_add] at h
theorem rw_get (hx : p.tables.exec = Jvm.exec) (hb : c.code = cc) (hts : ∀ w ∈ BIG, w.before args s = true) (hown : s.vm.findClass own = some m.cls) (hW : Wo G ad CA nt Ly A s M H locs) (k : Nat) {ci : Nat} {cs : List Nat} (hL : Ly[k]? = some (.inl (ci, cs))) (j : Nat) {cd : Nat} (hj : cs[j]? = some cd) {index : Nat} (hf : FF own index ci j) (hdg : decode cc pc = .ok (.getfield index, 3))
    (kk : W p l e R s m args below meth c H locs cells slots Q (F0 m (pc + 3) ls (ldV ad cd (M k ((j : Nat) : Int)) :: rest))) : W p l e R s m args below meth c H locs cells slots Q (F0 m pc ls (.ref (ad k) :: rest)) := by
  obtain ⟨C, T, N, hc, hjN, hin, hlink⟩ := hf
  have h1 := ldS_get ad (M k) cs 0 j cd hj
  rw [Nat.zero_add] at h1
  exact va_get (D := G) hx hb hts hin hown hW.K hW.P k (hW.cell hL) hc j hjN (hts _ hlink) (fun _ h => h) h1 hdg kk
theorem rw_getI (hx : p.tables.exec = Jvm.exec) (hb : c.code = cc) (hts : ∀ w ∈ BIG, w.before args s = true) (hown : s.vm.findClass own = some m.cls) (hW : Wo G ad CA nt Ly A s M H locs) (k : Nat) {ci : Nat} {cs : List Nat} (hL : Ly[k]? = some (.inl (ci, cs))) (j : Nat) (ji : Int) (hji : (j : Int) = ji) (hj : cs[j]? = some 0) {index : Nat} (hf : FF own index ci j) (hdg : decode cc pc = .ok (.getfield index, 3)) {v : Int} (hv : M k ji = v)
    (kk : W p l e R s m args below meth c H locs cells slots Q (F0 m (pc + 3) ls (.int (iN v) :: rest))) : W p l e R s m args below meth c H locs cells slots Q (F0 m pc ls (.ref (ad k) :: rest)) := by
  subst hji; subst hv
  exact rw_get hx hb hts hown hW k hL j hj hf hdg kk
theorem rw_getL (hx : p.tables.exec = Jvm.exec) (hb : c.code = cc) (hts : ∀ w ∈ BIG, w.before args s = true) (hown : s.vm.findClass own = some m.cls) (hW : Wo G ad CA nt Ly A s M H locs) (k : Nat) {ci : Nat} {cs : List Nat} (hL : Ly[k]? = some (.inl (ci, cs))) (j : Nat) (ji : Int) (hji : (j : Int) = ji) (hj : cs[j]? = some 1) {index : Nat} (hf : FF own index ci j) (hdg : decode cc pc = .ok (.getfield index, 3)) {v : Int} (hv : M k ji = v)
    (kk : W p l e R s m args below meth c H locs cells slots Q (F0 m (pc + 3) ls (.long (jN v) :: rest))) : W p l e R s m args below meth c H locs cells slots Q (F0 m pc ls (.ref (ad k) :: rest)) := by
  subst hji; subst hv
  exact rw_get hx hb hts hown hW k hL j hj hf hdg kk
theorem rw_getR (hx : p.tables.exec = Jvm.exec) (hb : c.code = cc) (hts : ∀ w ∈ BIG, w.before args s = true) (hown : s.vm.findClass own = some m.cls) (hW : Wo G ad CA nt Ly A s M H locs) (k : Nat) {ci : Nat} {cs : List Nat} (hL : Ly[k]? = some (.inl (ci, cs))) (j : Nat) (r : Nat) (hj : cs[j]? = some (r + 3)) {index : Nat} (hf : FF own index ci j) (hdg : decode cc pc = .ok (.getfield index, 3))
    (kk : W p l e R s m args below meth c H locs cells slots Q (F0 m (pc + 3) ls (.ref (ad r) :: rest))) : W p l e R s m args below meth c H locs cells slots Q (F0 m pc ls (.ref (ad k) :: rest)) :=
  rw_get hx hb hts hown hW k hL j hj hf hdg kk
theorem Wo.putI {k : Nat} {d : LD} {g : Int → Int} {H1 : Heap} {locs1 : List Loc} (hW : Wo G ad CA nt Ly A s M H locs) (hL : Ly[k]? = some d) (hP : va_P G vwCl ((wls ad CA M Ly 0).set k (ad k, ldE ad CA d g)) H1) (hS : va_S A s.heap H1 locs1) : Wo G ad CA nt Ly A s (updR M k g) H1 locs1 := by
  have h := wls_set ad CA M g Ly 0 k d hL
  rw [Nat.zero_add] at h
  rw [h] at hP
  exact ⟨hP, hW.K, hW.inj, hW.dom, hS, hW.N⟩
theorem rw_put (hx : p.tables.exec = Jvm.exec) (hb : c.code = cc) (hts : ∀ w ∈ BIG, w.before args s = true) (hown : s.vm.findClass own = some m.cls) (hW : Wo G ad CA nt Ly A s M H locs) (k : Nat) {ci : Nat} {cs : List Nat} (hL : Ly[k]? = some (.inl (ci, cs))) (j : Nat) {cd : Nat} (hj : cs[j]? = some cd) {index : Nat} {ty : FieldType} (hf : FQ own index ci j ty) (v : Int) (hn : narrow ty (ldV ad cd v) = ldV ad cd v) (hfit : fits ty (ldV ad cd v) = true) (hdg : decode cc pc = .ok (.putfield index, 3))
    (kk : ∀ (H1 : Heap) (locs1 : List Loc), Wo G ad CA nt Ly A s (upd2 M k ((j : Nat) : Int) v) H1 locs1 → W p l e R s m args below meth c H1 locs1 cells slots Q (F0 m (pc + 3) ls rest)) : W p l e R s m args below meth c H locs cells slots Q (F0 m pc ls (ldV ad cd v :: .ref (ad k) :: rest)) := by
  obtain ⟨C, T, N, ty0, hc, hjN, hin, hlink, hty, hnm, hfin, hd⟩ := hf
  have hlen : j < (ldS ad (M k) cs 0).length := by rw [ldS_len]; exact (List.getElem?_eq_some_iff.mp hj).1
  refine va_put (D := G) hx hb hts hin ty0 hty hnm hown hW.K hW.P (wls_D hW.inj hW.dom) hW.S k (hW.cell hL) hc j hjN (hts _ hlink) (fun _ h => h) hfin hd hn hfit hlen hdg fun H1 locs1 hP _ hS => ?_
  refine kk H1 locs1 (hW.putI hL ?_ hS)
  have h2 := ldS_set ad (M k) v cs 0 j cd hj
  rw [Nat.zero_add] at h2
  rw [h2] at hP
  exact hP
theorem rw_putI (hx : p.tables.exec = Jvm.exec) (hb : c.code = cc) (hts : ∀ w ∈ BIG, w.before args s = true) (hown : s.vm.findClass own = some m.cls) (hW : Wo G ad CA nt Ly A s M H locs) (k : Nat) {ci : Nat} {cs : List Nat} (hL : Ly[k]? = some (.inl (ci, cs))) (j : Nat) (ji : Int) (hji : (j : Int) = ji) (hj : cs[j]? = some 0) {index : Nat} (hf : FQ own index ci j .int) {v : Int} (hdg : decode cc pc = .ok (.putfield index, 3))
    (kk : ∀ (H1 : Heap) (locs1 : List Loc), Wo G ad CA nt Ly A s (upd2 M k ji v) H1 locs1 → W p l e R s m args below meth c H1 locs1 cells slots Q (F0 m (pc + 3) ls rest)) : W p l e R s m args below meth c H locs cells slots Q (F0 m pc ls (.int (iN v) :: .ref (ad k) :: rest)) := by
  subst hji
  exact rw_put hx hb hts hown hW k hL j hj hf v rfl rfl hdg kk
theorem rw_putL (hx : p.tables.exec = Jvm.exec) (hb : c.code = cc) (hts : ∀ w ∈ BIG, w.before args s = true) (hown : s.vm.findClass own = some m.cls) (hW : Wo G ad CA nt Ly A s M H locs) (k : Nat) {ci : Nat} {cs : List Nat} (hL : Ly[k]? = some (.inl (ci, cs))) (j : Nat) (ji : Int) (hji : (j : Int) = ji) (hj : cs[j]? = some 1) {index : Nat} (hf : FQ own index ci j .long) {v : Int} (hdg : decode cc pc = .ok (.putfield index, 3))
    (kk : ∀ (H1 : Heap) (locs1 : List Loc), Wo G ad CA nt Ly A s (upd2 M k ji v) H1 locs1 → W p l e R s m args below meth c H1 locs1 cells slots Q (F0 m (pc + 3) ls rest)) : W p l e R s m args below meth c H locs cells slots Q (F0 m pc ls (.long (jN v) :: .ref (ad k) :: rest)) := by
  subst hji
  exact rw_put hx hb hts hown hW k hL j hj hf v rfl rfl hdg kk
theorem rw_iald (hx : p.tables.exec = Jvm.exec) (hb : c.code = cc) (hW : Wo G ad CA nt Ly A s M H locs) (hnt : 4 ≤ nt) (k : Nat) {n : Nat} {rf : List Nat} (hL : Ly[k]? = some (.inr (0, n, rf))) {a : Int} (h0 : 0 ≤ a) (h1 : a < n) (hn : n ≤ 2147483647) (hdg : decode cc pc = .ok (.iaload, 1)) {v : Int} (hv : M k a = v)
    (kk : W p l e R s m args below meth c H locs cells slots Q (F0 m (pc + 1) ls (.int (iN v) :: rest))) : W p l e R s m args below meth c H locs cells slots Q (F0 m pc ls (.int (iN a) :: .ref (ad k) :: rest)) := by
  subst hv
  refine va_iald (D := G) hx hb hW.K hW.P k 0 (hW.cell hL) (tyL_get (by omega) rfl) (iN_vpin h0 h1 (by omega)) hdg ?_
  show W p l e R s m args below meth c H locs cells slots Q (F0 m (pc + 1) ls (.int (iN (M k (((iN a).toNatClampNeg : Nat) : Int))) :: rest))
  rw [iN_natI h0 (by omega)]
  exact kk
theorem rw_zald (hx : p.tables.exec = Jvm.exec) (hb : c.code = cc) (hW : Wo G ad CA nt Ly A s M H locs) (hnt : 4 ≤ nt) (k : Nat) {n : Nat} {rf : List Nat} (hL : Ly[k]? = some (.inr (3, n, rf))) {a : Int} (h0 : 0 ≤ a) (h1 : a < n) (hn : n ≤ 2147483647) (hdg : decode cc pc = .ok (.baload, 1)) {v : Int} (hv : M k a = v)
    (kk : W p l e R s m args below meth c H locs cells slots Q (F0 m (pc + 1) ls (.int (iN v) :: rest))) : W p l e R s m args below meth c H locs cells slots Q (F0 m pc ls (.int (iN a) :: .ref (ad k) :: rest)) := by
  subst hv
  refine va_zald (D := G) hx hb hW.K hW.P k 3 (hW.cell hL) (tyL_get (by omega) rfl) (iN_vpin h0 h1 (by omega)) hdg ?_
  show W p l e R s m args below meth c H locs cells slots Q (F0 m (pc + 1) ls (.int (iN (M k (((iN a).toNatClampNeg : Nat) : Int))) :: rest))
  rw [iN_natI h0 (by omega)]
  exact kk
theorem rw_bald (hx : p.tables.exec = Jvm.exec) (hb : c.code = cc) (hW : Wo G ad CA nt Ly A s M H locs) (hnt : 4 ≤ nt) (k : Nat) {n : Nat} {rf : List Nat} (hL : Ly[k]? = some (.inr (2, n, rf))) {a : Int} (h0 : 0 ≤ a) (h1 : a < n) (hn : n ≤ 2147483647) (hdg : decode cc pc = .ok (.baload, 1)) {v : Int} (hv : M k a = v)
    (kk : W p l e R s m args below meth c H locs cells slots Q (F0 m (pc + 1) ls (.int (iN v) :: rest))) : W p l e R s m args below meth c H locs cells slots Q (F0 m pc ls (.int (iN a) :: .ref (ad k) :: rest)) := by
  subst hv
  refine va_bald (D := G) hx hb hW.K hW.P k 2 (hW.cell hL) (tyL_get (by omega) rfl) (iN_vpin h0 h1 (by omega)) hdg ?_
  show W p l e R s m args below meth c H locs cells slots Q (F0 m (pc + 1) ls (.int (iN (M k (((iN a).toNatClampNeg : Nat) : Int))) :: rest))
  rw [iN_natI h0 (by omega)]
  exact kk
theorem rw_lald (hx : p.tables.exec = Jvm.exec) (hb : c.code = cc) (hW : Wo G ad CA nt Ly A s M H locs) (hnt : 4 ≤ nt) (k : Nat) {n : Nat} {rf : List Nat} (hL : Ly[k]? = some (.inr (1, n, rf))) {a : Int} (h0 : 0 ≤ a) (h1 : a < n) (hn : n ≤ 2147483647) (hdg : decode cc pc = .ok (.laload, 1)) {v : Int} (hv : M k a = v)
    (kk : W p l e R s m args below meth c H locs cells slots Q (F0 m (pc + 1) ls (.long (jN v) :: rest))) : W p l e R s m args below meth c H locs cells slots Q (F0 m pc ls (.int (iN a) :: .ref (ad k) :: rest)) := by
  subst hv
  refine va_lald (D := G) hx hb hW.K hW.P k 1 (hW.cell hL) (tyL_get (by omega) rfl) (iN_vpin h0 h1 (by omega)) hdg ?_
  show W p l e R s m args below meth c H locs cells slots Q (F0 m (pc + 1) ls (.long (jN (M k (((iN a).toNatClampNeg : Nat) : Int))) :: rest))
  rw [iN_natI h0 (by omega)]
  exact kk
theorem upd_I {f : Int → Int} {a v : Int} (h0 : 0 ≤ a) (h1 : a ≤ 2147483647) : (upd (fun j : Nat => iN (f j)) (iN a).toNatClampNeg (iN v)) = fun j : Nat => iN (updI f a v j) := by
  funext j
  unfold upd updI
  rw [iN_nat h0 h1]
  by_cases h : j = a.toNat
  · rw [if_pos h, if_pos (by omega)]
  · rw [if_neg h, if_neg (by omega)]
theorem upd_J {f : Int → Int} {a v : Int} (h0 : 0 ≤ a) (h1 : a ≤ 2147483647) : (vp_updL (fun j : Nat => jN (f j)) (iN a).toNatClampNeg (jN v)) = fun j : Nat => jN (updI f a v j) := by
  funext j
  unfold vp_updL updI
  rw [iN_nat h0 h1]
  by_cases h : j = a.toNat
  · rw [if_pos h, if_pos (by omega)]
  · rw [if_neg h, if_neg (by omega)]
theorem rw_iast (hx : p.tables.exec = Jvm.exec) (hb : c.code = cc) (hW : Wo G ad CA nt Ly A s M H locs) (hnt : 4 ≤ nt) (k : Nat) {n : Nat} {rf : List Nat} (hL : Ly[k]? = some (.inr (0, n, rf))) {a v : Int} (h0 : 0 ≤ a) (h1 : a < n) (hn : n ≤ 2147483647) (hdg : decode cc pc = .ok (.iastore, 1))
    (kk : ∀ (H1 : Heap) (locs1 : List Loc), Wo G ad CA nt Ly A s (upd2 M k a v) H1 locs1 → W p l e R s m args below meth c H1 locs1 cells slots Q (F0 m (pc + 1) ls rest)) : W p l e R s m args below meth c H locs cells slots Q (F0 m pc ls (.int (iN v) :: .int (iN a) :: .ref (ad k) :: rest)) := by
  refine va_iast (D := G) hx hb hW.K hW.P (wls_D hW.inj hW.dom) hW.S k 0 (hW.cell hL) (tyL_get (by omega) rfl) (iN_vpin h0 h1 (by omega)) hdg fun H1 locs1 hP _ hS => ?_
  refine kk H1 locs1 (hW.putI hL ?_ hS)
  rw [upd_I h0 (by omega)] at hP
  exact hP
theorem rw_last (hx : p.tables.exec = Jvm.exec) (hb : c.code = cc) (hW : Wo G ad CA nt Ly A s M H locs) (hnt : 4 ≤ nt) (k : Nat) {n : Nat} {rf : List Nat} (hL : Ly[k]? = some (.inr (1, n, rf))) {a v : Int} (h0 : 0 ≤ a) (h1 : a < n) (hn : n ≤ 2147483647) (hdg : decode cc pc = .ok (.lastore, 1))
    (kk : ∀ (H1 : Heap) (locs1 : List Loc), Wo G ad CA nt Ly A s (upd2 M k a v) H1 locs1 → W p l e R s m args below meth c H1 locs1 cells slots Q (F0 m (pc + 1) ls rest)) : W p l e R s m args below meth c H locs cells slots Q (F0 m pc ls (.long (jN v) :: .int (iN a) :: .ref (ad k) :: rest)) := by
  refine va_last (D := G) hx hb hW.K hW.P (wls_D hW.inj hW.dom) hW.S k 1 (hW.cell hL) (tyL_get (by omega) rfl) (iN_vpin h0 h1 (by omega)) hdg fun H1 locs1 hP _ hS => ?_
  refine kk H1 locs1 (hW.putI hL ?_ hS)
  rw [upd_J h0 (by omega)] at hP
  exact hP
theorem rw_alen (hx : p.tables.exec = Jvm.exec) (hb : c.code = cc) (hW : Wo G ad CA nt Ly A s M H locs) (k : Nat) {t n : Nat} {rf : List Nat} (hL : Ly[k]? = some (.inr (t, n, rf))) {ty : FieldType} (ht : (tyL CA nt)[t]? = some (CA t, ty)) (hdg : decode cc pc = .ok (.arraylength, 1))
    (kk : W p l e R s m args below meth c H locs cells slots Q (F0 m (pc + 1) ls (.int (iN n) :: rest))) : W p l e R s m args below meth c H locs cells slots Q (F0 m pc ls (.ref (ad k) :: rest)) :=
  va_alen (D := G) hx hb hW.K hW.P k t (hW.cell hL) ht (v := iN n) (Int32.ofInt_eq_ofNat.symm) hdg kk
end RW
/-! contracts -/
section MT
variable (l : Launch) (y : MethodName) (bytes : ByteArray) (maxL : Nat) (ret : Option FieldType) (fr lo : Nat) (G : va_G) (ad : Nat → Nat) (CA : Nat → ClassId) (nt : Nat) (Ly : List LD) (As : List Value) (M : Mem)
def Qg (post : Option Value → Mem → Prop) : Array Value → State → Outcome → State → Prop := fun _ st oc t => (∃ (v : Option Value) (M' : Mem), oc = .returned v ∧ post v M' ∧ Wp G ad CA nt Ly M' t) ∧ va_F (wA ad Ly) st t
def Mt (post : Option Value → Mem → Prop) : Prop :=
  Met l y (Cond.code y bytes maxL ret :: BIG) { frames := fr, cells := 0, slots := 0, locals := lo } (va_Pc As (fun U => Wp G ad CA nt Ly M U)) (Qg G ad CA nt Ly post) 0 0 (wA ad Ly)
abbrev oI (post : Int → Mem → Prop) : Option Value → Mem → Prop := fun v M' => ∃ a : Int, v = some (.int (iN a)) ∧ post a M'
abbrev oL (post : Int → Mem → Prop) : Option Value → Mem → Prop := fun v M' => ∃ a : Int, v = some (.long (jN a)) ∧ post a M'
abbrev oV (post : Mem → Prop) : Option Value → Mem → Prop := fun v M' => v = none ∧ post M'
abbrev oR (post : Nat → Mem → Prop) : Option Value → Mem → Prop := fun v M' => ∃ k : Nat, v = some (.ref (ad k)) ∧ post k M'
end MT
theorem Wp.blind {G : va_G} {ad : Nat → Nat} {CA : Nat → ClassId} {nt : Nat} {Ly : List LD} {M : Mem} {As : List Value} : FrameBlind (va_Pc As (fun U => Wp G ad CA nt Ly M U)) := by
  intro a U g mk q
  obtain ⟨q0, q1, q2, q3, q4⟩ := q
  exact ⟨q0, q1, va_K.moved (u := U) (U := U.calling g mk a) (Vm.Alike.refl U.vm) q2, q3, NWs.same (u := U) (U := U.calling g mk a) rfl q4⟩
section RC
variable {p : Program} {l : Launch} {e : Env} {R : Room} {s : State} {m : MethodId} {args : Array Value} {below : List Frame} {meth : Method} {c : Code} {H : Heap} {locs : List Loc} {cells slots : Nat} {Q : State → Prop}
variable {cc : ByteArray} {pc : Nat} {ls : Array Slot} {rest : List Value} {G : va_G} {ad : Nat → Nat} {CA : Nat → ClassId} {nt : Nat} {Ly : List LD} {M : Mem} {A : Nat → Prop} {own : String}
variable {y : MethodName} {bytes : ByteArray} {maxL nL fr lo index n : Nat} {ret : Option FieldType} {As : List Value} {post : Option Value → Mem → Prop}
theorem Wo.pre (hW : Wo G ad CA nt Ly A s M H locs) (As : List Value) : ∀ U : State, U.heap = H → s.WarmedH U.vm → va_Pc As (fun U => Wp G ad CA nt Ly M U) As.toArray U := fun U hU hV => ⟨rfl, by rw [hU]; exact hW.P, va_K.moved hV.alike hW.K, hW.inj, hW.N.warm hV⟩
/-- behind a call: the world that it left -/
theorem rw_run {post : Option Value → Mem → Prop} {Aa : Array Value} {g : JFrame} (hr : va_Run p l e R s m args below meth c H locs cells slots 0 0 g rest (Qg G ad CA nt Ly post Aa) (wA ad Ly)) (hW : Wo G ad CA nt Ly A s M H locs)
    (kk : ∀ (v : Option Value) (M' : Mem) (H1 : Heap) (locs1 : List Loc), post v M' → Wo G ad CA nt Ly A s M' H1 locs1 → (∀ q : Nat, q < H.size → ¬ wA ad Ly q → H1[q]? = H[q]?) → H.size ≤ H1.size → W p l e R s m args below meth c H1 locs1 cells slots Q { g with pc := g.pc + 3, stack := v.toList ++ rest }) : W p l e R s m args below meth c H locs cells slots Q g := by
  intro T hT X
  obtain ⟨v, st₀, t, T', L, h0, X', hL, e1, e2, ⟨⟨v', M', hv, hp, hb⟩, hz, hk⟩, st⟩ := hr T hT X
  cases hv
  rw [h0] at hz hk
  have hA : ∀ q, wA ad Ly q → A q := by
    rintro q ⟨k, h1, rfl⟩
    exact hW.dom k h1
  have hal : s.vm.Alike t.vm := by rw [← e2]; exact X'.warmed.alike
  have hS := hW.S
  have hW' : Wo G ad CA nt Ly A s M' T'.heap (locs ++ L) := by
    refine ⟨by rw [e1]; exact hb.1, va_K.moved hal.symm hb.2.1, hW.inj, hW.dom, ⟨Nat.le_trans hS.1 (by rw [e1]; exact hz), fun q h1 h2 => ?_, fun q hq => ?_⟩, hW.N⟩
    · rw [e1, hk q (Nat.lt_of_lt_of_le h1 hS.1) (fun z => h2 (hA q z))]
      exact hS.2.1 q h1 h2
    · rcases List.mem_append.mp hq with h | h
      · exact hS.2.2 q h
      · exact hA _ (hL q h)
  obtain ⟨t2, a1, b1⟩ := kk v M' T'.heap (locs ++ L) hp hW' (fun q h1 h2 => by rw [e1]; exact hk q h1 h2) (by rw [e1]; exact hz) T' rfl X'
  exact ⟨t2, st t2 a1, b1⟩
/-- what the tables say of a call's place -/
def CV (own : String) (index n : Nat) (y : MethodName) (bytes : ByteArray) (maxL : Nat) (ret : Option FieldType) : Prop := GoodIn BIG (wsV own index y.cls y [Cond.code y bytes maxL ret]) ∧ (y.cls ≠ "java/lang/invoke/MethodHandle" ∧ y.cls ≠ "java/lang/invoke/VarHandle" ∧ (parseMethodDescriptor y.desc).map (fun d => d.parameters.length) = some n)
def CS (own : String) (index n : Nat) (y : MethodName) (bytes : ByteArray) (maxL : Nat) (ret : Option FieldType) : Prop := GoodIn BIG (wsS own index y [Cond.code y bytes maxL ret] ++ [Cond.initialized y.cls]) ∧ (y.cls ≠ "java/lang/invoke/MethodHandle" ∧ y.cls ≠ "java/lang/invoke/VarHandle" ∧ (parseMethodDescriptor y.desc).map (fun d => d.parameters.length) = some n)
theorem big_good : GoodIn BIG BIG := goodIn_sub (fun _ h => h) (by decide +kernel)
theorem CV.w (h : CV own index n y bytes maxL ret) (hts : ∀ w ∈ BIG, w.before args s = true) (hR : fr + 1 ≤ R.frames ∧ 8 + (maxL + 11) + lo ≤ R.locals) : CallW R s args own y.cls index y bytes maxL ret (Cond.code y bytes maxL ret :: BIG) { frames := fr, cells := 0, slots := 0, locals := lo } 0 0 n := by
  obtain ⟨hg, hd⟩ := h
  refine cwV (Ts := BIG) n hts (fun w hw => ?_) rfl rfl rfl ⟨rfl, hd⟩ hR
  unfold wsV at hw
  rcases List.mem_append.mp hw with q | q
  · exact hg w (by unfold wsV; exact List.mem_append_left _ q)
  · rcases List.mem_cons.mp q with q | q
    · exact hg w (by unfold wsV; rw [q]; exact List.mem_append_right _ List.mem_cons_self)
    · exact big_good w q
theorem CS.w (h : CS own index n y bytes maxL ret) (hts : ∀ w ∈ BIG, w.before args s = true) (hR : fr + 1 ≤ R.frames ∧ 8 + (maxL + 11) + lo ≤ R.locals) : CallB R s args own index y bytes maxL ret (Cond.code y bytes maxL ret :: BIG) { frames := fr, cells := 0, slots := 0, locals := lo } 0 0 n ∧ (Cond.static y).before args s = true := by
  obtain ⟨hg, hd⟩ := h
  have ok : ∀ w ∈ wsS own index y [Cond.code y bytes maxL ret] ++ [Cond.initialized y.cls], w.before args s = true := fun w h => hts w (hg w h).1
  refine ⟨callB_of (Ts := BIG) n hts (fun w hw => ?_) rfl rfl rfl (ok _ (by simp [wsS])) (ok _ (by simp [wsS])) hd hR, ok _ (by simp [wsS])⟩
  rcases List.mem_cons.mp hw with q | q
  · exact hg w (by rw [q]; simp [wsS])
  · exact big_good w q
theorem rw_callV (hx : p.tables.exec = Jvm.exec) (hb : c.code = cc) (hml : c.maxLocals = nL) (hts : ∀ w ∈ BIG, w.before args s = true) (hown : s.vm.findClass own = some m.cls) (hW : Wo G ad CA nt Ly A s M H locs) (hc : cells ≤ R.cells ∧ slots ≤ R.slots) (As : List Value) (k : Nat) {ci : Nat} {cs : List Nat} (hL : Ly[k]? = some (.inl (ci, cs))) {T : u_T} {N : Nat} (hcl : vwCl[ci]? = some (y.cls, T, N)) (hM : Mt l y bytes maxL ret fr lo G ad CA nt Ly (.ref (ad k) :: As) M post) (cw : CV own index n y bytes maxL ret) (hn : As.length = n) (hR : fr + 1 ≤ R.frames ∧ 8 + (maxL + 11) + lo ≤ R.locals) (hsz : ls.size = nL) {st : List Value} (hst : st = As.reverse ++ .ref (ad k) :: rest) (hcat : (rest.map fun v => v.category).sum ≤ 8) (hdg : decode cc pc = .ok (.invokevirtual index, 3))
    (kk : ∀ (v : Option Value) (M' : Mem) (H1 : Heap) (locs1 : List Loc), post v M' → Wo G ad CA nt Ly A s M' H1 locs1 → W p l e R s m args below meth c H1 locs1 cells slots Q (F0 m (pc + 3) ls (v.toList ++ rest))) : W p l e R s m args below meth c H locs cells slots Q (F0 m pc ls st) :=
  rw_run (va_runV (own := own) (Ts := BIG) ⟨hx, hb, hml, hown, hts⟩ hM (cw.w hts hR) ⟨Wp.blind, va_recv hW.K hW.P hcl (hW.cell hL), hW.pre (.ref (ad k) :: As)⟩ rfl hn hsz hst (lv_room hcat) hdg ⟨by have := hc.1; omega, by have := hc.2; omega⟩) hW (fun v M' H1 locs1 h1 h2 _ _ => kk v M' H1 locs1 h1 h2)
theorem rw_callS (hx : p.tables.exec = Jvm.exec) (hb : c.code = cc) (hml : c.maxLocals = nL) (hts : ∀ w ∈ BIG, w.before args s = true) (hown : s.vm.findClass own = some m.cls) (hW : Wo G ad CA nt Ly A s M H locs) (hc : cells ≤ R.cells ∧ slots ≤ R.slots) (As : List Value) (hM : Mt l y bytes maxL ret fr lo G ad CA nt Ly As M post) (cw : CS own index n y bytes maxL ret) (hn : As.length = n) (hR : fr + 1 ≤ R.frames ∧ 8 + (maxL + 11) + lo ≤ R.locals) (hsz : ls.size = nL) {st : List Value} (hst : st = As.reverse ++ rest) (hcat : (rest.map fun v => v.category).sum ≤ 8) (hdg : decode cc pc = .ok (.invokestatic index, 3))
    (kk : ∀ (v : Option Value) (M' : Mem) (H1 : Heap) (locs1 : List Loc), post v M' → Wo G ad CA nt Ly A s M' H1 locs1 → W p l e R s m args below meth c H1 locs1 cells slots Q (F0 m (pc + 3) ls (v.toList ++ rest))) : W p l e R s m args below meth c H locs cells slots Q (F0 m pc ls st) :=
  rw_run (va_runS (own := own) (Ts := BIG) ⟨hx, hb, hml, hown, hts⟩ hM (cw.w hts hR) ⟨Wp.blind, hW.pre As⟩ rfl hn hsz hst (lv_room hcat) hdg ⟨by have := hc.1; omega, by have := hc.2; omega⟩) hW (fun v M' H1 locs1 h1 h2 _ _ => kk v M' H1 locs1 h1 h2)
theorem Wo.fin {post : Option Value → Mem → Prop} {v : Option Value} (hW : Wo G ad CA nt Ly (wA ad Ly) s M H locs) (hq : post v M) : ∀ t : State, t.heap = H → s.WarmedH t.vm → Qg G ad CA nt Ly post args s (.returned v) t :=
  fun t ht hV => ⟨⟨v, M, rfl, hq, by rw [ht]; exact hW.P, va_K.moved hV.alike hW.K, hW.inj, hW.N.warm hV⟩, hW.S.F ht⟩
theorem rw_iret (hx : p.tables.exec = Jvm.exec) (hb : c.code = cc) (hr : meth.sig.returnType = some .int) (hlocks : meth.locks = false) (hW : Wo G ad CA nt Ly (wA ad Ly) s M H locs) (hdg : decode cc pc = .ok (.ireturn, 1)) {a : Int} (hq : post (some (.int (iN a))) M) : W p l e R s m args below meth c H locs cells slots (MQ below (Qg G ad CA nt Ly post) args s cells slots (wA ad Ly)) (F0 m pc ls [.int (iN a)]) :=
  W.iret hx hb hr (hW.fin hq) hW.S.2.2 hdg hlocks
theorem rw_lret (hx : p.tables.exec = Jvm.exec) (hb : c.code = cc) (hr : meth.sig.returnType = some .long) (hlocks : meth.locks = false) (hW : Wo G ad CA nt Ly (wA ad Ly) s M H locs) (hdg : decode cc pc = .ok (.lreturn, 1)) {a : Int} (hq : post (some (.long (jN a))) M) : W p l e R s m args below meth c H locs cells slots (MQ below (Qg G ad CA nt Ly post) args s cells slots (wA ad Ly)) (F0 m pc ls [.long (jN a)]) :=
  W.lret hx hb hr (hW.fin hq) hW.S.2.2 hdg hlocks
theorem rw_vret (hx : p.tables.exec = Jvm.exec) (hb : c.code = cc) (hr : meth.sig.returnType = none) (hlocks : meth.locks = false) (hW : Wo G ad CA nt Ly (wA ad Ly) s M H locs) (hdg : decode cc pc = .ok (.return_, 1)) (hq : post none M) : W p l e R s m args below meth c H locs cells slots (MQ below (Qg G ad CA nt Ly post) args s cells slots (wA ad Ly)) (F0 m pc ls []) :=
  W.vret hx hb hr (hW.fin hq) hW.S.2.2 hdg hlocks
/-- a nest mate's private static method -/
def CN (own : String) (index n : Nat) (y : MethodName) (bytes : ByteArray) (maxL : Nat) (ret : Option FieldType) : Prop := Cond.methodLinkNest own index y RX10 ∈ NW ∧ GoodIn BIG [Cond.code y bytes maxL ret, Cond.static y, Cond.initialized y.cls] ∧ (y.cls ≠ "java/lang/invoke/MethodHandle" ∧ y.cls ≠ "java/lang/invoke/VarHandle" ∧ (parseMethodDescriptor y.desc).map (fun d => d.parameters.length) = some n)
theorem rw_callN (hx : p.tables.exec = Jvm.exec) (hb : c.code = cc) (hml : c.maxLocals = nL) (hts : ∀ w ∈ BIG, w.before args s = true) (hown : s.vm.findClass own = some m.cls) (hW : Wo G ad CA nt Ly A s M H locs) (hc : cells ≤ R.cells ∧ slots ≤ R.slots) (As : List Value) (hM : Mt l y bytes maxL ret fr lo G ad CA nt Ly As M post) (cw : CN own index n y bytes maxL ret) (hn : As.length = n) (hR : fr + 1 ≤ R.frames ∧ 8 + (maxL + 11) + lo ≤ R.locals) (hsz : ls.size = nL) {st : List Value} (hst : st = As.reverse ++ rest) (hcat : (rest.map fun v => v.category).sum ≤ 8) (hdg : decode cc pc = .ok (.invokestatic index, 3))
    (kk : ∀ (v : Option Value) (M' : Mem) (H1 : Heap) (locs1 : List Loc), post v M' → Wo G ad CA nt Ly A s M' H1 locs1 → W p l e R s m args below meth c H1 locs1 cells slots Q (F0 m (pc + 3) ls (v.toList ++ rest))) : W p l e R s m args below meth c H locs cells slots Q (F0 m pc ls st) := by
  obtain ⟨c1, c2, c3⟩ := cw
  have hG : GoodIn BIG (Cond.code y bytes maxL ret :: BIG) := fun w hw => (List.mem_cons.mp hw).elim (fun q => c2 w (by rw [q]; exact List.mem_cons_self)) (fun q => big_good w q)
  have hw2 := hts _ (c2 (Cond.static y) (by simp)).1
  have hw3 := hts _ (c2 (Cond.initialized y.cls) (by simp)).1
  exact rw_run (va_runSN (own := own) (host := RX10) (Ts := BIG) ⟨hx, hb, hml, hown, hts⟩ hM ⟨va_cnB n hts hG rfl rfl rfl (hW.N _ c1) hw3 c3 hR, hw2, trivial⟩ ⟨Wp.blind, hW.pre As⟩ rfl hn hsz hst (lv_room hcat) hdg ⟨by have := hc.1; omega, by have := hc.2; omega⟩) hW (fun v M' H1 locs1 h1 h2 _ _ => kk v M' H1 locs1 h1 h2)
end RC
/-! a contract from the walk of its body -/
abbrev Wf (l : Launch) (fr lo : Nat) (G : va_G) (ad : Nat → Nat) (CA : Nat → ClassId) (nt : Nat) (Ly : List LD) (post : Option Value → Mem → Prop) (p : Program) (e : Env) (s : State) (m : MethodId) (args : Array Value) (below : List Frame) (meth : Method) (c : Code) (H : Heap) (locs : List Loc) (g : JFrame) : Prop :=
  W p l e { frames := fr, cells := 0, slots := 0, locals := lo } s m args below meth c H locs 0 0 (MQ below (Qg G ad CA nt Ly post) args s 0 0 (wA ad Ly)) g
theorem Mt.of {l : Launch} {y : MethodName} {bytes : ByteArray} {maxL : Nat} {ret : Option FieldType} {fr lo : Nat} {G : va_G} {ad : Nat → Nat} {CA : Nat → ClassId} {nt : Nat} {Ly : List LD} {As : List Value} {M : Mem} {post : Option Value → Mem → Prop} (hy : plainName y.cls = true) (hlen : (lg_sl As).length ≤ maxL)
    (body : ∀ (p : Program) (e : Env) (s : State) (m : MethodId) (args : Array Value) (below : List Frame) (meth : Method) (c : Code), p.tables.exec = Jvm.exec → c.code = bytes → meth.sig.returnType = ret → c.maxLocals = maxL → (∀ w ∈ BIG, w.before args s = true) → s.vm.findClass y.cls = some m.cls → meth.locks = false → meth.name = y.name → Wo G ad CA nt Ly (wA ad Ly) s M s.heap [] → ∀ ls : Array Slot, lv_has ls maxL (lv_args 0 As) →
      Wf l fr lo G ad CA nt Ly post p e s m args below meth c s.heap [] (F0 m 0 ls [])) : Mt l y bytes maxL ret fr lo G ad CA nt Ly As M post := by
  refine Met.ofW (cc := bytes) (maxL := maxL) (ret := ret) hy rfl ?_
  intro p e s m args below meth c s₁ B hml hv
  obtain ⟨rfl, hv⟩ := hv
  have hts := atoms_spec (ws := Cond.code y bytes maxL ret :: BIG) B.pre
  have hl := lv_entry As (n := maxL) hlen
  rw [lg_entry_eq]
  exact body p e s m As.toArray below meth c B.exec B.bytes B.returns hml (fun w h => hts w (List.mem_cons_of_mem _ h)) (findClass_of_methodNamed B.named) B.notSynchronized (name_of_methodNamed B.named B.method).1 (Wo.start hv) _ hl
theorem Mt.mono {l : Launch} {y : MethodName} {bytes : ByteArray} {maxL : Nat} {ret : Option FieldType} {fr lo : Nat} {G : va_G} {ad : Nat → Nat} {CA : Nat → ClassId} {nt : Nat} {Ly : List LD} {As : List Value} {M : Mem} {post post' : Option Value → Mem → Prop} (h : Mt l y bytes maxL ret fr lo G ad CA nt Ly As M post) (hp : ∀ v M', post v M' → post' v M') : Mt l y bytes maxL ret fr lo G ad CA nt Ly As M post' := by
  intro p e ha hc hk s m args below hf happ hP hK
  obtain ⟨k, o, h1, h2, h3, ⟨⟨⟨v, M', q1, q2, q3⟩, q4⟩, q5⟩⟩ := h p e ha hc hk s m args below hf happ hP hK
  exact ⟨k, o, h1, h2, h3, ⟨⟨v, M', q1, hp _ _ q2, q3⟩, q4⟩, q5⟩
section RN
variable {p : Program} {l : Launch} {e : Env} {R : Room} {s : State} {m : MethodId} {args : Array Value} {below : List Frame} {meth : Method} {c : Code} {H : Heap} {locs : List Loc} {cells slots : Nat} {Q : State → Prop}
variable {cc : ByteArray} {pc : Nat} {ls : Array Slot} {rest : List Value}
theorem rw_iconst (hx : p.tables.exec = Jvm.exec) (hb : c.code = cc) {n : Int} (hdg : decode cc pc = .ok (.iconst n, 1)) (kk : W p l e R s m args below meth c H locs cells slots Q (F0 m (pc + 1) ls (.int (iN n) :: rest))) : W p l e R s m args below meth c H locs cells slots Q (F0 m pc ls rest) := lv_iconst hx hb hdg rfl kk
theorem rw_bipush (hx : p.tables.exec = Jvm.exec) (hb : c.code = cc) {n : Int} (hdg : decode cc pc = .ok (.bipush n, 2)) (hv : (Int8.ofInt n).toInt32 = iN n) (kk : W p l e R s m args below meth c H locs cells slots Q (F0 m (pc + 2) ls (.int (iN n) :: rest))) : W p l e R s m args below meth c H locs cells slots Q (F0 m pc ls rest) := lv_bipush hx hb hdg hv kk
theorem rw_sipush (hx : p.tables.exec = Jvm.exec) (hb : c.code = cc) {n : Int} (hdg : decode cc pc = .ok (.sipush n, 3)) (hv : (Int16.ofInt n).toInt32 = iN n) (kk : W p l e R s m args below meth c H locs cells slots Q (F0 m (pc + 3) ls (.int (iN n) :: rest))) : W p l e R s m args below meth c H locs cells slots Q (F0 m pc ls rest) := lv_sipush hx hb hdg hv kk
theorem rw_iadd (hx : p.tables.exec = Jvm.exec) (hb : c.code = cc) {a b : Int} (hdg : decode cc pc = .ok (.iadd, 1)) (kk : W p l e R s m args below meth c H locs cells slots Q (F0 m (pc + 1) ls (.int (iN (a + b)) :: rest))) : W p l e R s m args below meth c H locs cells slots Q (F0 m pc ls (.int (iN b) :: .int (iN a) :: rest)) := lv_iadd hx hb hdg (by rw [iN_add]; exact kk)
theorem rw_isub (hx : p.tables.exec = Jvm.exec) (hb : c.code = cc) {a b : Int} (hdg : decode cc pc = .ok (.isub, 1)) (kk : W p l e R s m args below meth c H locs cells slots Q (F0 m (pc + 1) ls (.int (iN (a - b)) :: rest))) : W p l e R s m args below meth c H locs cells slots Q (F0 m pc ls (.int (iN b) :: .int (iN a) :: rest)) := lv_isub hx hb hdg (by rw [iN_sub]; exact kk)
theorem rw_imul (hx : p.tables.exec = Jvm.exec) (hb : c.code = cc) {a b : Int} (hdg : decode cc pc = .ok (.imul, 1)) (kk : W p l e R s m args below meth c H locs cells slots Q (F0 m (pc + 1) ls (.int (iN (a * b)) :: rest))) : W p l e R s m args below meth c H locs cells slots Q (F0 m pc ls (.int (iN b) :: .int (iN a) :: rest)) := lv_imul hx hb hdg (by rw [iN_mul]; exact kk)
theorem rw_ineg (hx : p.tables.exec = Jvm.exec) (hb : c.code = cc) {a : Int} (hdg : decode cc pc = .ok (.ineg, 1)) (kk : W p l e R s m args below meth c H locs cells slots Q (F0 m (pc + 1) ls (.int (iN (-a)) :: rest))) : W p l e R s m args below meth c H locs cells slots Q (F0 m pc ls (.int (iN a) :: rest)) := lv_ineg hx hb hdg (by rw [iN_neg]; exact kk)
theorem rw_idiv (hx : p.tables.exec = Jvm.exec) (hb : c.code = cc) {a b v : Int} (hdg : decode cc pc = .ok (.idiv, 1)) (ha : in32 a) (hb' : 0 < b) (hb2 : b ≤ 2147483647) (hv : a.tdiv b = v) (kk : W p l e R s m args below meth c H locs cells slots Q (F0 m (pc + 1) ls (.int (iN v) :: rest))) : W p l e R s m args below meth c H locs cells slots Q (F0 m pc ls (.int (iN b) :: .int (iN a) :: rest)) := by
  subst hv
  refine lv_idiv hx hb hdg (fun h => ?_) ?_
  · rw [show (0 : Int32) = iN 0 from rfl, iN_eq ⟨by omega, hb2⟩ (by decide)] at h
    omega
  · rw [iN_tdiv ha ⟨by omega, hb2⟩ (by omega) (by omega)]
    exact kk
theorem rw_irem (hx : p.tables.exec = Jvm.exec) (hb : c.code = cc) {a b v : Int} (hdg : decode cc pc = .ok (.irem, 1)) (ha : in32 a) (hb' : 0 < b) (hb2 : b ≤ 2147483647) (hv : a.tmod b = v) (kk : W p l e R s m args below meth c H locs cells slots Q (F0 m (pc + 1) ls (.int (iN v) :: rest))) : W p l e R s m args below meth c H locs cells slots Q (F0 m pc ls (.int (iN b) :: .int (iN a) :: rest)) := by
  subst hv
  refine lv_irem hx hb hdg (fun h => ?_) ?_
  · rw [show (0 : Int32) = iN 0 from rfl, iN_eq ⟨by omega, hb2⟩ (by decide)] at h
    omega
  · rw [iN_tdiv ha ⟨by omega, hb2⟩ (by omega) (by omega), iN_mul, iN_sub]
    have h := Int.mul_tdiv_add_tmod a b
    rw [show a - a.tdiv b * b = a.tmod b by rw [Int.mul_comm]; omega]
    exact kk
theorem rw_iinc (hx : p.tables.exec = Jvm.exec) (hb : c.code = cc) {i nL k : Nat} {n a : Int} {lv lv' : List (Nat × Value)} (hdg : decode cc pc = .ok (.iinc i n, 3)) (h : lv_has ls nL lv) (hk : lv[k]? = some (i, .int (iN a))) (hn : i < nL) (hl : (i, Value.int (iN (a + n))) :: lv.filter (fun q => !(q.1 == i) && !(q.1 + 1 == i && q.2.category == 2)) = lv') (kk : ∀ l', lv_has l' nL lv' → W p l e R s m args below meth c H locs cells slots Q (F0 m (pc + 3) l' rest)) : W p l e R s m args below meth c H locs cells slots Q (F0 m pc ls rest) :=
  lv_iinc (v := iN (a + n)) hx hb hdg h hk (by rw [← iN_add]; rfl) hn hl kk
theorem rw_if_eq (hx : p.tables.exec = Jvm.exec) (hb : c.code = cc) {a : Int} {off : Int} {tgt : Nat} (hdg : decode cc pc = .ok (.ifCond .eq off, 3)) (ht : (pc : Int) + off = (tgt : Int)) (ha : in32 a) (kt : a = 0 → W p l e R s m args below meth c H locs cells slots Q (F0 m tgt ls rest)) (kf : ¬ a = 0 → W p l e R s m args below meth c H locs cells slots Q (F0 m (pc + 3) ls rest)) : W p l e R s m args below meth c H locs cells slots Q (F0 m pc ls (.int (iN a) :: rest)) :=
  lv_if_eq hx hb hdg ht (fun h => kt ((iN_eq ha (by decide)).mp h)) (fun h => kf (fun q => h (by rw [q]; rfl)))
theorem rw_if_ne (hx : p.tables.exec = Jvm.exec) (hb : c.code = cc) {a : Int} {off : Int} {tgt : Nat} (hdg : decode cc pc = .ok (.ifCond .ne off, 3)) (ht : (pc : Int) + off = (tgt : Int)) (ha : in32 a) (kt : ¬ a = 0 → W p l e R s m args below meth c H locs cells slots Q (F0 m tgt ls rest)) (kf : a = 0 → W p l e R s m args below meth c H locs cells slots Q (F0 m (pc + 3) ls rest)) : W p l e R s m args below meth c H locs cells slots Q (F0 m pc ls (.int (iN a) :: rest)) :=
  lv_if_ne hx hb hdg ht (fun h => kt (fun q => h (by rw [q]; rfl))) (fun h => kf ((iN_eq ha (by decide)).mp h))
theorem rw_if_lt (hx : p.tables.exec = Jvm.exec) (hb : c.code = cc) {a : Int} {off : Int} {tgt : Nat} (hdg : decode cc pc = .ok (.ifCond .lt off, 3)) (ht : (pc : Int) + off = (tgt : Int)) (ha : in32 a) (kt : a < 0 → W p l e R s m args below meth c H locs cells slots Q (F0 m tgt ls rest)) (kf : ¬ a < 0 → W p l e R s m args below meth c H locs cells slots Q (F0 m (pc + 3) ls rest)) : W p l e R s m args below meth c H locs cells slots Q (F0 m pc ls (.int (iN a) :: rest)) :=
  lv_if_lt hx hb hdg ht (fun h => kt ((iN_lt ha (by decide)).mp h)) (fun h => kf (fun q => h ((iN_lt (b := 0) ha (by decide)).mpr q)))
theorem rw_if_ge (hx : p.tables.exec = Jvm.exec) (hb : c.code = cc) {a : Int} {off : Int} {tgt : Nat} (hdg : decode cc pc = .ok (.ifCond .ge off, 3)) (ht : (pc : Int) + off = (tgt : Int)) (ha : in32 a) (kt : 0 ≤ a → W p l e R s m args below meth c H locs cells slots Q (F0 m tgt ls rest)) (kf : ¬ 0 ≤ a → W p l e R s m args below meth c H locs cells slots Q (F0 m (pc + 3) ls rest)) : W p l e R s m args below meth c H locs cells slots Q (F0 m pc ls (.int (iN a) :: rest)) :=
  lv_if_ge hx hb hdg ht (fun h => kt ((iN_le (by decide) ha).mp h)) (fun h => kf (fun q => h ((iN_le (a := 0) (by decide) ha).mpr q)))
theorem rw_if_gt (hx : p.tables.exec = Jvm.exec) (hb : c.code = cc) {a : Int} {off : Int} {tgt : Nat} (hdg : decode cc pc = .ok (.ifCond .gt off, 3)) (ht : (pc : Int) + off = (tgt : Int)) (ha : in32 a) (kt : 0 < a → W p l e R s m args below meth c H locs cells slots Q (F0 m tgt ls rest)) (kf : ¬ 0 < a → W p l e R s m args below meth c H locs cells slots Q (F0 m (pc + 3) ls rest)) : W p l e R s m args below meth c H locs cells slots Q (F0 m pc ls (.int (iN a) :: rest)) :=
  lv_if_gt hx hb hdg ht (fun h => kt ((iN_lt (by decide) ha).mp h)) (fun h => kf (fun q => h ((iN_lt (a := 0) (by decide) ha).mpr q)))
theorem rw_if_le (hx : p.tables.exec = Jvm.exec) (hb : c.code = cc) {a : Int} {off : Int} {tgt : Nat} (hdg : decode cc pc = .ok (.ifCond .le off, 3)) (ht : (pc : Int) + off = (tgt : Int)) (ha : in32 a) (kt : a ≤ 0 → W p l e R s m args below meth c H locs cells slots Q (F0 m tgt ls rest)) (kf : ¬ a ≤ 0 → W p l e R s m args below meth c H locs cells slots Q (F0 m (pc + 3) ls rest)) : W p l e R s m args below meth c H locs cells slots Q (F0 m pc ls (.int (iN a) :: rest)) :=
  lv_if_le hx hb hdg ht (fun h => kt ((iN_le ha (by decide)).mp h)) (fun h => kf (fun q => h ((iN_le (b := 0) ha (by decide)).mpr q)))
theorem rw_icmp_eq (hx : p.tables.exec = Jvm.exec) (hb : c.code = cc) {a b : Int} {off : Int} {tgt : Nat} (hdg : decode cc pc = .ok (.if_icmp .eq off, 3)) (ht : (pc : Int) + off = (tgt : Int)) (ha : in32 a) (hb' : in32 b) (kt : a = b → W p l e R s m args below meth c H locs cells slots Q (F0 m tgt ls rest)) (kf : ¬ a = b → W p l e R s m args below meth c H locs cells slots Q (F0 m (pc + 3) ls rest)) : W p l e R s m args below meth c H locs cells slots Q (F0 m pc ls (.int (iN b) :: .int (iN a) :: rest)) :=
  lv_icmp_eq hx hb hdg ht (fun h => kt ((iN_eq ha hb').mp h)) (fun h => kf (fun q => h (by rw [q])))
theorem rw_icmp_ne (hx : p.tables.exec = Jvm.exec) (hb : c.code = cc) {a b : Int} {off : Int} {tgt : Nat} (hdg : decode cc pc = .ok (.if_icmp .ne off, 3)) (ht : (pc : Int) + off = (tgt : Int)) (ha : in32 a) (hb' : in32 b) (kt : ¬ a = b → W p l e R s m args below meth c H locs cells slots Q (F0 m tgt ls rest)) (kf : a = b → W p l e R s m args below meth c H locs cells slots Q (F0 m (pc + 3) ls rest)) : W p l e R s m args below meth c H locs cells slots Q (F0 m pc ls (.int (iN b) :: .int (iN a) :: rest)) :=
  lv_icmp_ne hx hb hdg ht (fun h => kt (fun q => h (by rw [q]))) (fun h => kf ((iN_eq ha hb').mp h))
theorem rw_icmp_lt (hx : p.tables.exec = Jvm.exec) (hb : c.code = cc) {a b : Int} {off : Int} {tgt : Nat} (hdg : decode cc pc = .ok (.if_icmp .lt off, 3)) (ht : (pc : Int) + off = (tgt : Int)) (ha : in32 a) (hb' : in32 b) (kt : a < b → W p l e R s m args below meth c H locs cells slots Q (F0 m tgt ls rest)) (kf : ¬ a < b → W p l e R s m args below meth c H locs cells slots Q (F0 m (pc + 3) ls rest)) : W p l e R s m args below meth c H locs cells slots Q (F0 m pc ls (.int (iN b) :: .int (iN a) :: rest)) :=
  lv_icmp_lt hx hb hdg ht (fun h => kt ((iN_lt ha hb').mp h)) (fun h => kf (fun q => h ((iN_lt ha hb').mpr q)))
theorem rw_icmp_ge (hx : p.tables.exec = Jvm.exec) (hb : c.code = cc) {a b : Int} {off : Int} {tgt : Nat} (hdg : decode cc pc = .ok (.if_icmp .ge off, 3)) (ht : (pc : Int) + off = (tgt : Int)) (ha : in32 a) (hb' : in32 b) (kt : b ≤ a → W p l e R s m args below meth c H locs cells slots Q (F0 m tgt ls rest)) (kf : ¬ b ≤ a → W p l e R s m args below meth c H locs cells slots Q (F0 m (pc + 3) ls rest)) : W p l e R s m args below meth c H locs cells slots Q (F0 m pc ls (.int (iN b) :: .int (iN a) :: rest)) :=
  lv_icmp_ge hx hb hdg ht (fun h => kt ((iN_le hb' ha).mp h)) (fun h => kf (fun q => h ((iN_le hb' ha).mpr q)))
theorem rw_icmp_gt (hx : p.tables.exec = Jvm.exec) (hb : c.code = cc) {a b : Int} {off : Int} {tgt : Nat} (hdg : decode cc pc = .ok (.if_icmp .gt off, 3)) (ht : (pc : Int) + off = (tgt : Int)) (ha : in32 a) (hb' : in32 b) (kt : b < a → W p l e R s m args below meth c H locs cells slots Q (F0 m tgt ls rest)) (kf : ¬ b < a → W p l e R s m args below meth c H locs cells slots Q (F0 m (pc + 3) ls rest)) : W p l e R s m args below meth c H locs cells slots Q (F0 m pc ls (.int (iN b) :: .int (iN a) :: rest)) :=
  lv_icmp_gt hx hb hdg ht (fun h => kt ((iN_lt hb' ha).mp h)) (fun h => kf (fun q => h ((iN_lt hb' ha).mpr q)))
theorem rw_icmp_le (hx : p.tables.exec = Jvm.exec) (hb : c.code = cc) {a b : Int} {off : Int} {tgt : Nat} (hdg : decode cc pc = .ok (.if_icmp .le off, 3)) (ht : (pc : Int) + off = (tgt : Int)) (ha : in32 a) (hb' : in32 b) (kt : a ≤ b → W p l e R s m args below meth c H locs cells slots Q (F0 m tgt ls rest)) (kf : ¬ a ≤ b → W p l e R s m args below meth c H locs cells slots Q (F0 m (pc + 3) ls rest)) : W p l e R s m args below meth c H locs cells slots Q (F0 m pc ls (.int (iN b) :: .int (iN a) :: rest)) :=
  lv_icmp_le hx hb hdg ht (fun h => kt ((iN_le ha hb').mp h)) (fun h => kf (fun q => h ((iN_le ha hb').mpr q)))
end RN
section RM
variable {p : Program} {l : Launch} {e : Env} {R : Room} {s : State} {m : MethodId} {args : Array Value} {below : List Frame} {meth : Method} {c : Code} {H : Heap} {locs : List Loc} {cells slots : Nat} {Q : State → Prop}
variable {cc : ByteArray} {pc : Nat} {ls : Array Slot} {rest : List Value} {G : va_G} {ad : Nat → Nat} {CA : Nat → ClassId} {nt : Nat} {Ly : List LD} {M : Mem} {A : Nat → Prop} {own : String} {post : Option Value → Mem → Prop}
theorem iN_ite_lt {a b : Int} (ha : in32 a) (hb : in32 b) : (if iN a < iN b then iN b else iN a) = iN (max a b) := by
  rw [Int.max_def]
  by_cases h : a < b
  · rw [if_pos ((iN_lt ha hb).mpr h), if_pos (by omega)]
  · rw [if_neg (fun q => h ((iN_lt ha hb).mp q))]
    by_cases h2 : a ≤ b
    · rw [if_pos h2, show a = b by omega]
    · rw [if_neg h2]
theorem rw_max (hx : p.tables.exec = Jvm.exec) (hb : c.code = cc) {nL : Nat} (hml : c.maxLocals = nL) (hsz : ls.size = nL) (hts : ∀ w ∈ BIG, w.before args s = true) (hown : s.vm.findClass own = some m.cls) {index : Nat} (hlink : Cond.methodLink own index Lib.Math.max.name ∈ BIG) (hw : (Cond.static Lib.Math.max.name) ∈ BIG ∧ (Cond.initialized "java/lang/Math") ∈ BIG ∧ (Cond.code Lib.Math.max.name Lib.Math.max.code 2 (some .int)) ∈ BIG) (hR : 1 ≤ R.frames ∧ (rest.map fun v => v.category).sum + 13 ≤ R.locals) (hc : cells ≤ R.cells ∧ slots ≤ R.slots) {a b : Int} (ha : in32 a) (hb' : in32 b) (hdg : decode cc pc = .ok (.invokestatic index, 3))
    (kk : W p l e R s m args below meth c H locs cells slots Q (F0 m (pc + 3) ls (.int (iN (max a b)) :: rest))) : W p l e R s m args below meth c H locs cells slots Q (F0 m pc ls (.int (iN b) :: .int (iN a) :: rest)) :=
  va_mmax hx hb (hml.trans hsz.symm) hown (hts _ hlink) (hts _ hw.1) (hts _ hw.2.1) (hts _ hw.2.2) hR.1 hR.2 hc.1 hc.2 hdg (by rw [iN_ite_lt ha hb']; exact kk)
theorem rw_zret (hx : p.tables.exec = Jvm.exec) (hb : c.code = cc) (hr : meth.sig.returnType = some .boolean) (hlocks : meth.locks = false) (hW : Wo G ad CA nt Ly (wA ad Ly) s M H locs) (hdg : decode cc pc = .ok (.ireturn, 1)) {a : Int} (hn : a = 0 ∨ a = 1) (hq : post (some (.int (iN a))) M) : W p l e R s m args below meth c H locs cells slots (MQ below (Qg G ad CA nt Ly post) args s cells slots (wA ad Ly)) (F0 m pc ls [.int (iN a)]) :=
  W.zret hx hb hr (by rcases hn with rfl | rfl <;> rfl) (hW.fin hq) hW.S.2.2 hdg hlocks
theorem rw_aret (hx : p.tables.exec = Jvm.exec) (hb : c.code = cc) {C : String} (hr : meth.sig.returnType = some (.object C)) (hlocks : meth.locks = false) (hW : Wo G ad CA nt Ly (wA ad Ly) s M H locs) (hdg : decode cc pc = .ok (.areturn, 1)) {v : Value} (hv : v = .null ∨ ∃ a, v = .ref a) (hq : post (some v) M) : W p l e R s m args below meth c H locs cells slots (MQ below (Qg G ad CA nt Ly post) args s cells slots (wA ad Ly)) (F0 m pc ls [v]) :=
  W.aret hx hb hr (Or.inl ⟨C, rfl⟩) hv (hW.fin hq) hW.S.2.2 hdg hlocks
end RM
